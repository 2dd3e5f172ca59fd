theorem dX6_rightLines_0 : decode cX6_rightLines 0 = .ok (.aload_n 0, 1) := by decide +kernel
theorem dX6_rightLines_1 : decode cX6_rightLines 1 = .ok (.getfield 29, 3) := by decide +kernel
theorem dX6_rightLines_4 : decode cX6_rightLines 4 = .ok (.invokevirtual 37, 3) := by decide +kernel
theorem dX6_rightLines_7 : decode cX6_rightLines 7 = .ok (.istore_n 1, 1) := by decide +kernel
theorem dX6_rightLines_8 : decode cX6_rightLines 8 = .ok (.aload_n 0, 1) := by decide +kernel
theorem dX6_rightLines_9 : decode cX6_rightLines 9 = .ok (.getfield 12, 3) := by decide +kernel
theorem dX6_rightLines_12 : decode cX6_rightLines 12 = .ok (.aload_n 0, 1) := by decide +kernel
theorem dX6_rightLines_13 : decode cX6_rightLines 13 = .ok (.getfield 25, 3) := by decide +kernel
theorem dX6_rightLines_16 : decode cX6_rightLines 16 = .ok (.invokevirtual 43, 3) := by decide +kernel
theorem dX6_rightLines_19 : decode cX6_rightLines 19 = .ok (.iconst 1, 1) := by decide +kernel
theorem dX6_rightLines_20 : decode cX6_rightLines 20 = .ok (.istore_n 2, 1) := by decide +kernel
theorem dX6_rightLines_21 : decode cX6_rightLines 21 = .ok (.iload_n 2, 1) := by decide +kernel
theorem dX6_rightLines_22 : decode cX6_rightLines 22 = .ok (.iload_n 1, 1) := by decide +kernel
theorem dX6_rightLines_23 : decode cX6_rightLines 23 = .ok (.if_icmp .gt 28, 3) := by decide +kernel
theorem dX6_rightLines_26 : decode cX6_rightLines 26 = .ok (.aload_n 0, 1) := by decide +kernel
theorem dX6_rightLines_27 : decode cX6_rightLines 27 = .ok (.getfield 18, 3) := by decide +kernel
theorem dX6_rightLines_30 : decode cX6_rightLines 30 = .ok (.iload_n 2, 1) := by decide +kernel
theorem dX6_rightLines_31 : decode cX6_rightLines 31 = .ok (.aload_n 0, 1) := by decide +kernel
theorem dX6_rightLines_32 : decode cX6_rightLines 32 = .ok (.getfield 33, 3) := by decide +kernel
theorem dX6_rightLines_35 : decode cX6_rightLines 35 = .ok (.aload_n 0, 1) := by decide +kernel
theorem dX6_rightLines_36 : decode cX6_rightLines 36 = .ok (.getfield 12, 3) := by decide +kernel
theorem dX6_rightLines_39 : decode cX6_rightLines 39 = .ok (.invokevirtual 47, 3) := by decide +kernel
theorem dX6_rightLines_42 : decode cX6_rightLines 42 = .ok (.invokestatic 53, 3) := by decide +kernel
theorem dX6_rightLines_45 : decode cX6_rightLines 45 = .ok (.iinc 2 1, 3) := by decide +kernel
theorem dX6_rightLines_48 : decode cX6_rightLines 48 = .ok (.goto (-27), 3) := by decide +kernel
theorem dX6_rightLines_51 : decode cX6_rightLines 51 = .ok (.iconst 0, 1) := by decide +kernel
theorem dX6_rightLines_52 : decode cX6_rightLines 52 = .ok (.istore_n 2, 1) := by decide +kernel
theorem dX6_rightLines_53 : decode cX6_rightLines 53 = .ok (.iload_n 2, 1) := by decide +kernel
theorem dX6_rightLines_54 : decode cX6_rightLines 54 = .ok (.aload_n 0, 1) := by decide +kernel
theorem dX6_rightLines_55 : decode cX6_rightLines 55 = .ok (.getfield 29, 3) := by decide +kernel
theorem dX6_rightLines_58 : decode cX6_rightLines 58 = .ok (.getfield 57, 3) := by decide +kernel
theorem dX6_rightLines_61 : decode cX6_rightLines 61 = .ok (.if_icmp .ge 43, 3) := by decide +kernel
theorem dX6_rightLines_64 : decode cX6_rightLines 64 = .ok (.aload_n 0, 1) := by decide +kernel
theorem dX6_rightLines_65 : decode cX6_rightLines 65 = .ok (.getfield 18, 3) := by decide +kernel
theorem dX6_rightLines_68 : decode cX6_rightLines 68 = .ok (.aload_n 0, 1) := by decide +kernel
theorem dX6_rightLines_69 : decode cX6_rightLines 69 = .ok (.getfield 29, 3) := by decide +kernel
theorem dX6_rightLines_72 : decode cX6_rightLines 72 = .ok (.getfield 61, 3) := by decide +kernel
theorem dX6_rightLines_75 : decode cX6_rightLines 75 = .ok (.iload_n 2, 1) := by decide +kernel
theorem dX6_rightLines_76 : decode cX6_rightLines 76 = .ok (.invokestatic 64, 3) := by decide +kernel
theorem dX6_rightLines_79 : decode cX6_rightLines 79 = .ok (.invokestatic 64, 3) := by decide +kernel
theorem dX6_rightLines_82 : decode cX6_rightLines 82 = .ok (.aload_n 0, 1) := by decide +kernel
theorem dX6_rightLines_83 : decode cX6_rightLines 83 = .ok (.getfield 29, 3) := by decide +kernel
theorem dX6_rightLines_86 : decode cX6_rightLines 86 = .ok (.getfield 68, 3) := by decide +kernel
theorem dX6_rightLines_89 : decode cX6_rightLines 89 = .ok (.iload_n 2, 1) := by decide +kernel
theorem dX6_rightLines_90 : decode cX6_rightLines 90 = .ok (.invokestatic 64, 3) := by decide +kernel
theorem dX6_rightLines_93 : decode cX6_rightLines 93 = .ok (.if_icmp .eq 5, 3) := by decide +kernel
theorem dX6_rightLines_96 : decode cX6_rightLines 96 = .ok (.iload_n 2, 1) := by decide +kernel
theorem dX6_rightLines_97 : decode cX6_rightLines 97 = .ok (.ireturn, 1) := by decide +kernel
theorem dX6_rightLines_98 : decode cX6_rightLines 98 = .ok (.iinc 2 1, 3) := by decide +kernel
theorem dX6_rightLines_101 : decode cX6_rightLines 101 = .ok (.goto (-48), 3) := by decide +kernel
theorem dX6_rightLines_104 : decode cX6_rightLines 104 = .ok (.aload_n 0, 1) := by decide +kernel
theorem dX6_rightLines_105 : decode cX6_rightLines 105 = .ok (.getfield 29, 3) := by decide +kernel
theorem dX6_rightLines_108 : decode cX6_rightLines 108 = .ok (.getfield 57, 3) := by decide +kernel
theorem dX6_rightLines_111 : decode cX6_rightLines 111 = .ok (.ireturn, 1) := by decide +kernel
def fX6_rightLines_53  : Nat → Nat → Int32 → zV → Option (Int32 × zV)
  | 0 => fun _ _ _ => none
  | n + 1 => fun x0 x2 v =>
    if (v (zrf x0 1) 0) ≤ x2 then
      some (v (zrf x0 1) 0, v)
    else
      zbind (fX9_get (zrf (zrf x0 1) 1) x2 v) fun r_2 v_1 =>
      zbind (fX9_get (zrf x0 4) r_2 v_1) fun r_4 v_3 =>
      zbind (fX9_get (zrf (zrf x0 1) 2) x2 v_3) fun r_6 v_5 =>
      if r_4 = r_6 then
        (fX6_rightLines_53 n) x0 (x2 + (1 : Int32)) v_5
      else
        some (x2, v_5)
set_option maxRecDepth 4000 in
theorem jX6_rightLines_53 (x : zCx) (G : zG) (F : zF x G cX6_rightLines 3 RX6 7 214) (hr : x.2.2.2.2.2.2.2.2.1.sig.returnType = (Option.some FieldType.int)) (hk : x.2.2.2.2.2.2.2.2.1.locks = false) (r : Int32) (w : zV)  : ∀ (n : Nat) (x0 : Nat) (t0 : zty G x0 1 6) (x2 : Int32) (v : zV), fX6_rightLines_53 n x0 x2 v = some (r, w) → zJ x G 3 (zQ x G (some (.int r)) w 0 0) 0 0 53 [(0, zr G x0), (2, .int x2)] [] v := by
  intro n
  induction n with
  | zero => intro x0 t0 x2 v h; exact absurd h (by intro q; cases q)
  | succ n ih =>
    intro x0 t0 x2 v h
    rw [fX6_rightLines_53] at h
    dsimp only at h
    refine z_iload_n F dX6_rightLines_53 rfl 1 rfl ?_
    refine z_aload_n F dX6_rightLines_54 rfl 0 rfl ?_
    refine zg_6_1 F t0 wF_X6_29 dX6_rightLines_55 ?_
    refine zg_1_0 F (zt_f tc_6_1 t0) wF_X6_57 dX6_rightLines_58 ?_
    refine z_icmp_ge F 104 dX6_rightLines_61 rfl (fun hc => ?_) (fun hc => ?_)
    · replace h := zif_t hc h
      refine z_aload_n F dX6_rightLines_104 rfl 0 rfl ?_
      refine zg_6_1 F t0 wF_X6_29 dX6_rightLines_105 ?_
      refine zg_1_0 F (zt_f tc_6_1 t0) wF_X6_57 dX6_rightLines_108 ?_
      cases h
      exact z_reti F hr hk dX6_rightLines_111
    · replace h := zif_f hc h
      refine z_aload_n F dX6_rightLines_64 rfl 0 rfl ?_
      refine zg_6_4 F t0 wF_X6_18 dX6_rightLines_65 ?_
      refine z_aload_n F dX6_rightLines_68 rfl 0 rfl ?_
      refine zg_6_1 F t0 wF_X6_29 dX6_rightLines_69 ?_
      refine zg_1_1 F (zt_f tc_6_1 t0) wF_X6_61 dX6_rightLines_72 ?_
      refine z_iload_n F dX6_rightLines_75 rfl 1 rfl ?_
      obtain ⟨r_2, v_1, hq76, h⟩ := zbind_ex h
      refine z_callSNi F [zr G (zrf (zrf x0 1) 1), .int x2] [zr G (zrf x0 4)] (kX9_get x.2.1 G (zrf (zrf x0 1) 1) (zt_f tc_1_1 (zt_f tc_6_1 t0)) x2 v r_2 v_1 hq76) mI_X9_get wN_X6_64 ms_X9_get dX6_rightLines_76 rfl ⟨Nat.le_of_ble_eq_true rfl, Nat.le_of_ble_eq_true rfl⟩ rfl (Nat.le_of_ble_eq_true rfl) ⟨Nat.zero_le _, Nat.zero_le _⟩ ?_
      obtain ⟨r_4, v_3, hq79, h⟩ := zbind_ex h
      refine z_callSNi F [zr G (zrf x0 4), .int r_2] [] (kX9_get x.2.1 G (zrf x0 4) (zt_f tc_6_4 t0) r_2 v_1 r_4 v_3 hq79) mI_X9_get wN_X6_64 ms_X9_get dX6_rightLines_79 rfl ⟨Nat.le_of_ble_eq_true rfl, Nat.le_of_ble_eq_true rfl⟩ rfl (Nat.le_of_ble_eq_true rfl) ⟨Nat.zero_le _, Nat.zero_le _⟩ ?_
      refine z_aload_n F dX6_rightLines_82 rfl 0 rfl ?_
      refine zg_6_1 F t0 wF_X6_29 dX6_rightLines_83 ?_
      refine zg_1_2 F (zt_f tc_6_1 t0) wF_X6_68 dX6_rightLines_86 ?_
      refine z_iload_n F dX6_rightLines_89 rfl 1 rfl ?_
      obtain ⟨r_6, v_5, hq90, h⟩ := zbind_ex h
      refine z_callSNi F [zr G (zrf (zrf x0 1) 2), .int x2] [.int r_4] (kX9_get x.2.1 G (zrf (zrf x0 1) 2) (zt_f tc_1_2 (zt_f tc_6_1 t0)) x2 v_3 r_6 v_5 hq90) mI_X9_get wN_X6_64 ms_X9_get dX6_rightLines_90 rfl ⟨Nat.le_of_ble_eq_true rfl, Nat.le_of_ble_eq_true rfl⟩ rfl (Nat.le_of_ble_eq_true rfl) ⟨Nat.zero_le _, Nat.zero_le _⟩ ?_
      refine z_icmp_eq F 98 dX6_rightLines_93 rfl (fun hc => ?_) (fun hc => ?_)
      · replace h := zif_t hc h
        refine z_iinc F [(2, .int (x2 + (1 : Int32))), (0, zr G x0)] dX6_rightLines_98 1 rfl rfl (Nat.le_of_ble_eq_true rfl) rfl ?_
        refine z_goto F 53 dX6_rightLines_101 rfl ?_
        refine z_ls [(0, zr G x0), (2, .int (x2 + (1 : Int32)))] [1, 0] rfl ?_
        exact ih x0 t0 (x2 + (1 : Int32)) v_5 h
      · replace h := zif_f hc h
        refine z_iload_n F dX6_rightLines_96 rfl 1 rfl ?_
        cases h
        exact z_reti F hr hk dX6_rightLines_97

def fX6_rightLines_21  : Nat → Nat → Int32 → Int32 → zV → Option (Int32 × zV)
  | 0 => fun _ _ _ _ => none
  | n + 1 => fun x0 x1 x2 v =>
    if x1 < x2 then
      fX6_rightLines_53  zFU x0 (0 : Int32) v
    else
      zbind (fX2_pass (zrf x0 2) (zrf x0 3) v) fun r_2 v_1 =>
      zbindv (fX9_set (zrf x0 4) x2 r_2 v_1) fun v_3 =>
      (fX6_rightLines_21 n) x0 x1 (x2 + (1 : Int32)) v_3
set_option maxRecDepth 4000 in
theorem jX6_rightLines_21 (x : zCx) (G : zG) (F : zF x G cX6_rightLines 3 RX6 7 214) (hr : x.2.2.2.2.2.2.2.2.1.sig.returnType = (Option.some FieldType.int)) (hk : x.2.2.2.2.2.2.2.2.1.locks = false) (r : Int32) (w : zV)  : ∀ (n : Nat) (x0 : Nat) (t0 : zty G x0 1 6) (x1 : Int32) (x2 : Int32) (v : zV), fX6_rightLines_21 n x0 x1 x2 v = some (r, w) → zJ x G 3 (zQ x G (some (.int r)) w 0 0) 0 0 21 [(0, zr G x0), (1, .int x1), (2, .int x2)] [] v := by
  intro n
  induction n with
  | zero => intro x0 t0 x1 x2 v h; exact absurd h (by intro q; cases q)
  | succ n ih =>
    intro x0 t0 x1 x2 v h
    rw [fX6_rightLines_21] at h
    dsimp only at h
    refine z_iload_n F dX6_rightLines_21 rfl 2 rfl ?_
    refine z_iload_n F dX6_rightLines_22 rfl 1 rfl ?_
    refine z_icmp_gt F 51 dX6_rightLines_23 rfl (fun hc => ?_) (fun hc => ?_)
    · replace h := zif_t hc h
      refine z_iconst (y := (0 : Int32)) F dX6_rightLines_51 rfl ?_
      refine z_istore_n F [(2, .int (0 : Int32)), (0, zr G x0), (1, .int x1)] dX6_rightLines_52 rfl (Nat.le_of_ble_eq_true rfl) rfl ?_
      refine z_ls [(0, zr G x0), (2, .int (0 : Int32))] [1, 0] rfl ?_
      exact jX6_rightLines_53 x G F hr hk r w   zFU x0 t0 (0 : Int32) v h
    · replace h := zif_f hc h
      refine z_aload_n F dX6_rightLines_26 rfl 0 rfl ?_
      refine zg_6_4 F t0 wF_X6_18 dX6_rightLines_27 ?_
      refine z_iload_n F dX6_rightLines_30 rfl 2 rfl ?_
      refine z_aload_n F dX6_rightLines_31 rfl 0 rfl ?_
      refine zg_6_2 F t0 wF_X6_33 dX6_rightLines_32 ?_
      refine z_aload_n F dX6_rightLines_35 rfl 0 rfl ?_
      refine zg_6_3 F t0 wF_X6_12 dX6_rightLines_36 ?_
      obtain ⟨r_2, v_1, hq39, h⟩ := zbind_ex h
      refine z_callVi F [zr G (zrf x0 3)] [.int x2, zr G (zrf x0 4)] (kX2_pass x.2.1 G (zrf x0 2) (zt_f tc_6_2 t0) (zrf x0 3) (zt_f tc_6_3 t0) v r_2 v_1 hq39) mI_X2_pass (c := 2) rfl (zt_f tc_6_2 t0) wM_X6_47 mi_X2_pass sl_X2_pass dX6_rightLines_39 rfl ⟨Nat.le_of_ble_eq_true rfl, Nat.le_of_ble_eq_true rfl⟩ rfl (Nat.le_of_ble_eq_true rfl) ⟨Nat.zero_le _, Nat.zero_le _⟩ ?_
      obtain ⟨v_3, hq42, h⟩ := zbindv_ex h
      refine z_callSNv F [zr G (zrf x0 4), .int x2, .int r_2] [] (kX9_set x.2.1 G (zrf x0 4) (zt_f tc_6_4 t0) x2 r_2 v_1 v_3 hq42) mI_X9_set wN_X6_53 ms_X9_set dX6_rightLines_42 rfl ⟨Nat.le_of_ble_eq_true rfl, Nat.le_of_ble_eq_true rfl⟩ rfl (Nat.le_of_ble_eq_true rfl) ⟨Nat.zero_le _, Nat.zero_le _⟩ ?_
      refine z_iinc F [(2, .int (x2 + (1 : Int32))), (0, zr G x0), (1, .int x1)] dX6_rightLines_45 2 rfl rfl (Nat.le_of_ble_eq_true rfl) rfl ?_
      refine z_goto F 21 dX6_rightLines_48 rfl ?_
      refine z_ls [(0, zr G x0), (1, .int x1), (2, .int (x2 + (1 : Int32)))] [1, 2, 0] rfl ?_
      exact ih x0 t0 x1 (x2 + (1 : Int32)) v_3 h

def fX6_rightLines (x0 : Nat) (v : zV) : Option (Int32 × zV) :=
  zbind (fX1_lastYear (zrf x0 1) v) fun r_2 v_1 =>
  zbindv (fX7_open (zrf x0 3) (zrf x0 0) v_1) fun v_3 =>
  fX6_rightLines_21  zFU x0 r_2 (1 : Int32) v_3
set_option maxRecDepth 4000 in
theorem kX6_rightLines (l : Launch) (G : zG) (x0 : Nat) (t0 : zty G x0 1 6) (v : zV) (r : Int32) (w : zV) (h : fX6_rightLines x0 v = some (r, w)) : zMet l yX6_rightLines cX6_rightLines 3 (Option.some FieldType.int) 7 214 0 0 [zr G x0] G v (some (.int r)) w := by
  refine zM_of (own := RX6) (by decide) rfl (Nat.le_of_ble_eq_true rfl) (fun x hl F hr hk hcs => ?_)
  subst hl
  refine z_ls [(0, zr G x0)] [0] rfl ?_
  unfold fX6_rightLines at h
  refine z_aload_n F dX6_rightLines_0 rfl 0 rfl ?_
  refine zg_6_1 F t0 wF_X6_29 dX6_rightLines_1 ?_
  obtain ⟨r_2, v_1, hq4, h⟩ := zbind_ex h
  refine z_callVi F [] [] (kX1_lastYear x.2.1 G (zrf x0 1) (zt_f tc_6_1 t0) v r_2 v_1 hq4) mI_X1_lastYear (c := 1) rfl (zt_f tc_6_1 t0) wM_X6_37 mi_X1_lastYear sl_X1_lastYear dX6_rightLines_4 rfl ⟨Nat.le_of_ble_eq_true rfl, Nat.le_of_ble_eq_true rfl⟩ rfl (Nat.le_of_ble_eq_true rfl) ⟨Nat.zero_le _, Nat.zero_le _⟩ ?_
  refine z_istore_n F [(1, .int r_2), (0, zr G x0)] dX6_rightLines_7 rfl (Nat.le_of_ble_eq_true rfl) rfl ?_
  refine z_aload_n F dX6_rightLines_8 rfl 1 rfl ?_
  refine zg_6_3 F t0 wF_X6_12 dX6_rightLines_9 ?_
  refine z_aload_n F dX6_rightLines_12 rfl 1 rfl ?_
  refine zg_6_0 F t0 wF_X6_25 dX6_rightLines_13 ?_
  obtain ⟨v_3, hq16, h⟩ := zbindv_ex h
  refine z_callVv F [zr G (zrf x0 0)] [] (kX7_open x.2.1 G (zrf x0 3) (zt_f tc_6_3 t0) (zrf x0 0) (zt_f tc_6_0 t0) v_1 v_3 hq16) mI_X7_open (c := 7) rfl (zt_f tc_6_3 t0) wM_X6_43 mi_X7_open sl_X7_open dX6_rightLines_16 rfl ⟨Nat.le_of_ble_eq_true rfl, Nat.le_of_ble_eq_true rfl⟩ rfl (Nat.le_of_ble_eq_true rfl) ⟨Nat.zero_le _, Nat.zero_le _⟩ ?_
  refine z_iconst (y := (1 : Int32)) F dX6_rightLines_19 rfl ?_
  refine z_istore_n F [(2, .int (1 : Int32)), (1, .int r_2), (0, zr G x0)] dX6_rightLines_20 rfl (Nat.le_of_ble_eq_true rfl) rfl ?_
  refine z_ls [(0, zr G x0), (1, .int r_2), (2, .int (1 : Int32))] [2, 1, 0] rfl ?_
  exact jX6_rightLines_21 x G F hr hk r w   zFU x0 t0 r_2 (1 : Int32) v_3 h

theorem dX6_holds_0 : decode cX6_holds 0 = .ok (.aload_n 0, 1) := by decide +kernel
theorem dX6_holds_1 : decode cX6_holds 1 = .ok (.getfield 29, 3) := by decide +kernel
theorem dX6_holds_4 : decode cX6_holds 4 = .ok (.invokevirtual 37, 3) := by decide +kernel
theorem dX6_holds_7 : decode cX6_holds 7 = .ok (.istore_n 3, 1) := by decide +kernel
theorem dX6_holds_8 : decode cX6_holds 8 = .ok (.aload_n 0, 1) := by decide +kernel
theorem dX6_holds_9 : decode cX6_holds 9 = .ok (.getfield 12, 3) := by decide +kernel
theorem dX6_holds_12 : decode cX6_holds 12 = .ok (.aload_n 0, 1) := by decide +kernel
theorem dX6_holds_13 : decode cX6_holds 13 = .ok (.getfield 25, 3) := by decide +kernel
theorem dX6_holds_16 : decode cX6_holds 16 = .ok (.invokevirtual 43, 3) := by decide +kernel
theorem dX6_holds_19 : decode cX6_holds 19 = .ok (.iconst 1, 1) := by decide +kernel
theorem dX6_holds_20 : decode cX6_holds 20 = .ok (.istore 4, 2) := by decide +kernel
theorem dX6_holds_22 : decode cX6_holds 22 = .ok (.iload 4, 2) := by decide +kernel
theorem dX6_holds_24 : decode cX6_holds 24 = .ok (.iload_n 3, 1) := by decide +kernel
theorem dX6_holds_25 : decode cX6_holds 25 = .ok (.if_icmp .gt 64, 3) := by decide +kernel
theorem dX6_holds_28 : decode cX6_holds 28 = .ok (.aload_n 0, 1) := by decide +kernel
theorem dX6_holds_29 : decode cX6_holds 29 = .ok (.getfield 33, 3) := by decide +kernel
theorem dX6_holds_32 : decode cX6_holds 32 = .ok (.aload_n 0, 1) := by decide +kernel
theorem dX6_holds_33 : decode cX6_holds 33 = .ok (.getfield 12, 3) := by decide +kernel
theorem dX6_holds_36 : decode cX6_holds 36 = .ok (.invokevirtual 71, 3) := by decide +kernel
theorem dX6_holds_39 : decode cX6_holds 39 = .ok (.iload 4, 2) := by decide +kernel
theorem dX6_holds_41 : decode cX6_holds 41 = .ok (.iload_n 1, 1) := by decide +kernel
theorem dX6_holds_42 : decode cX6_holds 42 = .ok (.if_icmp .ne 16, 3) := by decide +kernel
theorem dX6_holds_45 : decode cX6_holds 45 = .ok (.aload_n 0, 1) := by decide +kernel
theorem dX6_holds_46 : decode cX6_holds 46 = .ok (.getfield 33, 3) := by decide +kernel
theorem dX6_holds_49 : decode cX6_holds 49 = .ok (.aload_n 0, 1) := by decide +kernel
theorem dX6_holds_50 : decode cX6_holds 50 = .ok (.getfield 12, 3) := by decide +kernel
theorem dX6_holds_53 : decode cX6_holds 53 = .ok (.iload_n 2, 1) := by decide +kernel
theorem dX6_holds_54 : decode cX6_holds 54 = .ok (.invokevirtual 75, 3) := by decide +kernel
theorem dX6_holds_57 : decode cX6_holds 57 = .ok (.pop, 1) := by decide +kernel
theorem dX6_holds_58 : decode cX6_holds 58 = .ok (.aload_n 0, 1) := by decide +kernel
theorem dX6_holds_59 : decode cX6_holds 59 = .ok (.getfield 29, 3) := by decide +kernel
theorem dX6_holds_62 : decode cX6_holds 62 = .ok (.iload 4, 2) := by decide +kernel
theorem dX6_holds_64 : decode cX6_holds 64 = .ok (.aload_n 0, 1) := by decide +kernel
theorem dX6_holds_65 : decode cX6_holds 65 = .ok (.getfield 33, 3) := by decide +kernel
theorem dX6_holds_68 : decode cX6_holds 68 = .ok (.aload_n 0, 1) := by decide +kernel
theorem dX6_holds_69 : decode cX6_holds 69 = .ok (.getfield 12, 3) := by decide +kernel
theorem dX6_holds_72 : decode cX6_holds 72 = .ok (.invokevirtual 79, 3) := by decide +kernel
theorem dX6_holds_75 : decode cX6_holds 75 = .ok (.invokevirtual 82, 3) := by decide +kernel
theorem dX6_holds_78 : decode cX6_holds 78 = .ok (.ifCond .ne 5, 3) := by decide +kernel
theorem dX6_holds_81 : decode cX6_holds 81 = .ok (.iconst 0, 1) := by decide +kernel
theorem dX6_holds_82 : decode cX6_holds 82 = .ok (.ireturn, 1) := by decide +kernel
theorem dX6_holds_83 : decode cX6_holds 83 = .ok (.iinc 4 1, 3) := by decide +kernel
theorem dX6_holds_86 : decode cX6_holds 86 = .ok (.goto (-64), 3) := by decide +kernel
theorem dX6_holds_89 : decode cX6_holds 89 = .ok (.iconst 1, 1) := by decide +kernel
theorem dX6_holds_90 : decode cX6_holds 90 = .ok (.ireturn, 1) := by decide +kernel
def fX6_holds_58 (K22 : Nat → Int32 → Int32 → Int32 → Int32 → zV → Option (Int32 × zV)) (x0 : Nat) (x1 : Int32) (x2 : Int32) (x3 : Int32) (x4 : Int32) (v : zV) : Option (Int32 × zV) :=
  zbind (fX2_settle (zrf x0 2) (zrf x0 3) v) fun r_2 v_1 =>
  zbind (fX1_allows (zrf x0 1) x4 r_2 v_1) fun r_4 v_3 =>
  if r_4 = (0 : Int32) then
    some ((0 : Int32), v_3)
  else
    K22 x0 x1 x2 x3 (x4 + (1 : Int32)) v_3
set_option maxRecDepth 4000 in
theorem jX6_holds_58 (x : zCx) (G : zG) (F : zF x G cX6_holds 5 RX6 6 193) (hr : x.2.2.2.2.2.2.2.2.1.sig.returnType = (Option.some FieldType.boolean)) (hk : x.2.2.2.2.2.2.2.2.1.locks = false) (r : Int32) (w : zV) (K22 : Nat → Int32 → Int32 → Int32 → Int32 → zV → Option (Int32 × zV)) (hK22 : ∀ (x0 : Nat) (t0 : zty G x0 1 6) (x1 : Int32) (x2 : Int32) (x3 : Int32) (x4 : Int32) (v : zV), K22 x0 x1 x2 x3 x4 v = some (r, w) → zJ x G 5 (zQ x G (some (.int r)) w 0 0) 0 0 22 [(0, zr G x0), (1, .int x1), (2, .int x2), (3, .int x3), (4, .int x4)] [] v) : ∀ (x0 : Nat) (t0 : zty G x0 1 6) (x1 : Int32) (x2 : Int32) (x3 : Int32) (x4 : Int32) (v : zV), fX6_holds_58 K22 x0 x1 x2 x3 x4 v = some (r, w) → zJ x G 5 (zQ x G (some (.int r)) w 0 0) 0 0 58 [(0, zr G x0), (1, .int x1), (2, .int x2), (3, .int x3), (4, .int x4)] [] v := by
  intro x0 t0 x1 x2 x3 x4 v h
  unfold fX6_holds_58 at h
  refine z_aload_n F dX6_holds_58 rfl 0 rfl ?_
  refine zg_6_1 F t0 wF_X6_29 dX6_holds_59 ?_
  refine z_iload F dX6_holds_62 4 rfl ?_
  refine z_aload_n F dX6_holds_64 rfl 0 rfl ?_
  refine zg_6_2 F t0 wF_X6_33 dX6_holds_65 ?_
  refine z_aload_n F dX6_holds_68 rfl 0 rfl ?_
  refine zg_6_3 F t0 wF_X6_12 dX6_holds_69 ?_
  obtain ⟨r_2, v_1, hq72, h⟩ := zbind_ex h
  refine z_callVi F [zr G (zrf x0 3)] [.int x4, zr G (zrf x0 1)] (kX2_settle x.2.1 G (zrf x0 2) (zt_f tc_6_2 t0) (zrf x0 3) (zt_f tc_6_3 t0) v r_2 v_1 hq72) mI_X2_settle (c := 2) rfl (zt_f tc_6_2 t0) wM_X6_79 mi_X2_settle sl_X2_settle dX6_holds_72 rfl ⟨Nat.le_of_ble_eq_true rfl, Nat.le_of_ble_eq_true rfl⟩ rfl (Nat.le_of_ble_eq_true rfl) ⟨Nat.zero_le _, Nat.zero_le _⟩ ?_
  obtain ⟨r_4, v_3, hq75, h⟩ := zbind_ex h
  refine z_callVi F [.int x4, .int r_2] [] (kX1_allows x.2.1 G (zrf x0 1) (zt_f tc_6_1 t0) x4 r_2 v_1 r_4 v_3 hq75) mI_X1_allows (c := 1) rfl (zt_f tc_6_1 t0) wM_X6_82 mi_X1_allows sl_X1_allows dX6_holds_75 rfl ⟨Nat.le_of_ble_eq_true rfl, Nat.le_of_ble_eq_true rfl⟩ rfl (Nat.le_of_ble_eq_true rfl) ⟨Nat.zero_le _, Nat.zero_le _⟩ ?_
  refine z_if_ne F 83 dX6_holds_78 rfl (fun hc => ?_) (fun hc => ?_)
  · replace h := zif_f hc h
    refine z_iinc F [(4, .int (x4 + (1 : Int32))), (0, zr G x0), (1, .int x1), (2, .int x2), (3, .int x3)] dX6_holds_83 4 rfl rfl (Nat.le_of_ble_eq_true rfl) rfl ?_
    refine z_goto F 22 dX6_holds_86 rfl ?_
    refine z_ls [(0, zr G x0), (1, .int x1), (2, .int x2), (3, .int x3), (4, .int (x4 + (1 : Int32)))] [1, 2, 3, 4, 0] rfl ?_
    exact hK22 x0 t0 x1 x2 x3 (x4 + (1 : Int32)) v_3 h
  · replace h := zif_t hc h
    refine z_iconst (y := (0 : Int32)) F dX6_holds_81 rfl ?_
    cases h
    exact z_retz F hr hk rfl dX6_holds_82

def fX6_holds_22  : Nat → Nat → Int32 → Int32 → Int32 → Int32 → zV → Option (Int32 × zV)
  | 0 => fun _ _ _ _ _ _ => none
  | n + 1 => fun x0 x1 x2 x3 x4 v =>
    if x3 < x4 then
      some ((1 : Int32), v)
    else
      zbindv (fX2_tellDeaths (zrf x0 2) (zrf x0 3) v) fun v_1 =>
      if x4 = x1 then
        zbind (fX2_kill (zrf x0 2) (zrf x0 3) x2 v_1) fun r_3 v_2 =>
        fX6_holds_58 (fX6_holds_22 n) x0 x1 x2 x3 x4 v_2
      else
        fX6_holds_58 (fX6_holds_22 n) x0 x1 x2 x3 x4 v_1
set_option maxRecDepth 4000 in
theorem jX6_holds_22 (x : zCx) (G : zG) (F : zF x G cX6_holds 5 RX6 6 193) (hr : x.2.2.2.2.2.2.2.2.1.sig.returnType = (Option.some FieldType.boolean)) (hk : x.2.2.2.2.2.2.2.2.1.locks = false) (r : Int32) (w : zV)  : ∀ (n : Nat) (x0 : Nat) (t0 : zty G x0 1 6) (x1 : Int32) (x2 : Int32) (x3 : Int32) (x4 : Int32) (v : zV), fX6_holds_22 n x0 x1 x2 x3 x4 v = some (r, w) → zJ x G 5 (zQ x G (some (.int r)) w 0 0) 0 0 22 [(0, zr G x0), (1, .int x1), (2, .int x2), (3, .int x3), (4, .int x4)] [] v := by
  intro n
  induction n with
  | zero => intro x0 t0 x1 x2 x3 x4 v h; exact absurd h (by intro q; cases q)
  | succ n ih =>
    intro x0 t0 x1 x2 x3 x4 v h
    rw [fX6_holds_22] at h
    dsimp only at h
    refine z_iload F dX6_holds_22 4 rfl ?_
    refine z_iload_n F dX6_holds_24 rfl 3 rfl ?_
    refine z_icmp_gt F 89 dX6_holds_25 rfl (fun hc => ?_) (fun hc => ?_)
    · replace h := zif_t hc h
      refine z_iconst (y := (1 : Int32)) F dX6_holds_89 rfl ?_
      cases h
      exact z_retz F hr hk rfl dX6_holds_90
    · replace h := zif_f hc h
      refine z_aload_n F dX6_holds_28 rfl 0 rfl ?_
      refine zg_6_2 F t0 wF_X6_33 dX6_holds_29 ?_
      refine z_aload_n F dX6_holds_32 rfl 0 rfl ?_
      refine zg_6_3 F t0 wF_X6_12 dX6_holds_33 ?_
      obtain ⟨v_1, hq36, h⟩ := zbindv_ex h
      refine z_callVv F [zr G (zrf x0 3)] [] (kX2_tellDeaths x.2.1 G (zrf x0 2) (zt_f tc_6_2 t0) (zrf x0 3) (zt_f tc_6_3 t0) v v_1 hq36) mI_X2_tellDeaths (c := 2) rfl (zt_f tc_6_2 t0) wM_X6_71 mi_X2_tellDeaths sl_X2_tellDeaths dX6_holds_36 rfl ⟨Nat.le_of_ble_eq_true rfl, Nat.le_of_ble_eq_true rfl⟩ rfl (Nat.le_of_ble_eq_true rfl) ⟨Nat.zero_le _, Nat.zero_le _⟩ ?_
      refine z_iload F dX6_holds_39 4 rfl ?_
      refine z_iload_n F dX6_holds_41 rfl 1 rfl ?_
      refine z_icmp_ne F 58 dX6_holds_42 rfl (fun hc => ?_) (fun hc => ?_)
      · replace h := zif_f hc h
        refine z_ls [(0, zr G x0), (1, .int x1), (2, .int x2), (3, .int x3), (4, .int x4)] [0, 1, 2, 3, 4] rfl ?_
        exact jX6_holds_58 x G F hr hk r w (fX6_holds_22 n) ih x0 t0 x1 x2 x3 x4 v_1 h
      · replace h := zif_t hc h
        refine z_aload_n F dX6_holds_45 rfl 0 rfl ?_
        refine zg_6_2 F t0 wF_X6_33 dX6_holds_46 ?_
        refine z_aload_n F dX6_holds_49 rfl 0 rfl ?_
        refine zg_6_3 F t0 wF_X6_12 dX6_holds_50 ?_
        refine z_iload_n F dX6_holds_53 rfl 2 rfl ?_
        obtain ⟨r_3, v_2, hq54, h⟩ := zbind_ex h
        refine z_callVi F [zr G (zrf x0 3), .int x2] [] (kX2_kill x.2.1 G (zrf x0 2) (zt_f tc_6_2 t0) (zrf x0 3) (zt_f tc_6_3 t0) x2 v_1 r_3 v_2 hq54) mI_X2_kill (c := 2) rfl (zt_f tc_6_2 t0) wM_X6_75 mi_X2_kill sl_X2_kill dX6_holds_54 rfl ⟨Nat.le_of_ble_eq_true rfl, Nat.le_of_ble_eq_true rfl⟩ rfl (Nat.le_of_ble_eq_true rfl) ⟨Nat.zero_le _, Nat.zero_le _⟩ ?_
        refine z_pop F dX6_holds_57 rfl ?_
        refine z_ls [(0, zr G x0), (1, .int x1), (2, .int x2), (3, .int x3), (4, .int x4)] [0, 1, 2, 3, 4] rfl ?_
        exact jX6_holds_58 x G F hr hk r w (fX6_holds_22 n) ih x0 t0 x1 x2 x3 x4 v_2 h

def fX6_holds (x0 : Nat) (x1 : Int32) (x2 : Int32) (v : zV) : Option (Int32 × zV) :=
  zbind (fX1_lastYear (zrf x0 1) v) fun r_2 v_1 =>
  zbindv (fX7_open (zrf x0 3) (zrf x0 0) v_1) fun v_3 =>
  fX6_holds_22  zFU x0 x1 x2 r_2 (1 : Int32) v_3
set_option maxRecDepth 4000 in
theorem kX6_holds (l : Launch) (G : zG) (x0 : Nat) (t0 : zty G x0 1 6) (x1 : Int32) (x2 : Int32) (v : zV) (r : Int32) (w : zV) (h : fX6_holds x0 x1 x2 v = some (r, w)) : zMet l yX6_holds cX6_holds 5 (Option.some FieldType.boolean) 6 193 0 0 [zr G x0, .int x1, .int x2] G v (some (.int r)) w := by
  refine zM_of (own := RX6) (by decide) rfl (Nat.le_of_ble_eq_true rfl) (fun x hl F hr hk hcs => ?_)
  subst hl
  refine z_ls [(0, zr G x0), (1, .int x1), (2, .int x2)] [0, 1, 2] rfl ?_
  unfold fX6_holds at h
  refine z_aload_n F dX6_holds_0 rfl 0 rfl ?_
  refine zg_6_1 F t0 wF_X6_29 dX6_holds_1 ?_
  obtain ⟨r_2, v_1, hq4, h⟩ := zbind_ex h
  refine z_callVi F [] [] (kX1_lastYear x.2.1 G (zrf x0 1) (zt_f tc_6_1 t0) v r_2 v_1 hq4) mI_X1_lastYear (c := 1) rfl (zt_f tc_6_1 t0) wM_X6_37 mi_X1_lastYear sl_X1_lastYear dX6_holds_4 rfl ⟨Nat.le_of_ble_eq_true rfl, Nat.le_of_ble_eq_true rfl⟩ rfl (Nat.le_of_ble_eq_true rfl) ⟨Nat.zero_le _, Nat.zero_le _⟩ ?_
  refine z_istore_n F [(3, .int r_2), (0, zr G x0), (1, .int x1), (2, .int x2)] dX6_holds_7 rfl (Nat.le_of_ble_eq_true rfl) rfl ?_
  refine z_aload_n F dX6_holds_8 rfl 1 rfl ?_
  refine zg_6_3 F t0 wF_X6_12 dX6_holds_9 ?_
  refine z_aload_n F dX6_holds_12 rfl 1 rfl ?_
  refine zg_6_0 F t0 wF_X6_25 dX6_holds_13 ?_
  obtain ⟨v_3, hq16, h⟩ := zbindv_ex h
  refine z_callVv F [zr G (zrf x0 0)] [] (kX7_open x.2.1 G (zrf x0 3) (zt_f tc_6_3 t0) (zrf x0 0) (zt_f tc_6_0 t0) v_1 v_3 hq16) mI_X7_open (c := 7) rfl (zt_f tc_6_3 t0) wM_X6_43 mi_X7_open sl_X7_open dX6_holds_16 rfl ⟨Nat.le_of_ble_eq_true rfl, Nat.le_of_ble_eq_true rfl⟩ rfl (Nat.le_of_ble_eq_true rfl) ⟨Nat.zero_le _, Nat.zero_le _⟩ ?_
  refine z_iconst (y := (1 : Int32)) F dX6_holds_19 rfl ?_
  refine z_istore (n := 0) F [(4, .int (1 : Int32)), (3, .int r_2), (0, zr G x0), (1, .int x1), (2, .int x2)] dX6_holds_20 (Nat.le_of_ble_eq_true rfl) rfl ?_
  refine z_ls [(0, zr G x0), (1, .int x1), (2, .int x2), (3, .int r_2), (4, .int (1 : Int32))] [2, 3, 4, 1, 0] rfl ?_
  exact jX6_holds_22 x G F hr hk r w   zFU x0 t0 x1 x2 r_2 (1 : Int32) v_3 h

theorem dX6_deathsThatFit_0 : decode cX6_deathsThatFit 0 = .ok (.aload_n 0, 1) := by decide +kernel
theorem dX6_deathsThatFit_1 : decode cX6_deathsThatFit 1 = .ok (.iconst 0, 1) := by decide +kernel
theorem dX6_deathsThatFit_2 : decode cX6_deathsThatFit 2 = .ok (.iconst (-1), 1) := by decide +kernel
theorem dX6_deathsThatFit_3 : decode cX6_deathsThatFit 3 = .ok (.invokevirtual 86, 3) := by decide +kernel
theorem dX6_deathsThatFit_6 : decode cX6_deathsThatFit 6 = .ok (.ifCond .eq 8, 3) := by decide +kernel
theorem dX6_deathsThatFit_9 : decode cX6_deathsThatFit 9 = .ok (.ldc 89, 2) := by decide +kernel
theorem dX6_deathsThatFit_11 : decode cX6_deathsThatFit 11 = .ok (.goto 4, 3) := by decide +kernel
theorem dX6_deathsThatFit_14 : decode cX6_deathsThatFit 14 = .ok (.iconst 0, 1) := by decide +kernel
theorem dX6_deathsThatFit_15 : decode cX6_deathsThatFit 15 = .ok (.istore_n 2, 1) := by decide +kernel
theorem dX6_deathsThatFit_16 : decode cX6_deathsThatFit 16 = .ok (.iconst 0, 1) := by decide +kernel
theorem dX6_deathsThatFit_17 : decode cX6_deathsThatFit 17 = .ok (.istore_n 3, 1) := by decide +kernel
theorem dX6_deathsThatFit_18 : decode cX6_deathsThatFit 18 = .ok (.iload_n 3, 1) := by decide +kernel
theorem dX6_deathsThatFit_19 : decode cX6_deathsThatFit 19 = .ok (.aload_n 0, 1) := by decide +kernel
theorem dX6_deathsThatFit_20 : decode cX6_deathsThatFit 20 = .ok (.getfield 25, 3) := by decide +kernel
theorem dX6_deathsThatFit_23 : decode cX6_deathsThatFit 23 = .ok (.getfield 90, 3) := by decide +kernel
theorem dX6_deathsThatFit_26 : decode cX6_deathsThatFit 26 = .ok (.if_icmp .ge 24, 3) := by decide +kernel
theorem dX6_deathsThatFit_29 : decode cX6_deathsThatFit 29 = .ok (.aload_n 0, 1) := by decide +kernel
theorem dX6_deathsThatFit_30 : decode cX6_deathsThatFit 30 = .ok (.iload_n 1, 1) := by decide +kernel
theorem dX6_deathsThatFit_31 : decode cX6_deathsThatFit 31 = .ok (.iload_n 3, 1) := by decide +kernel
theorem dX6_deathsThatFit_32 : decode cX6_deathsThatFit 32 = .ok (.invokevirtual 86, 3) := by decide +kernel
theorem dX6_deathsThatFit_35 : decode cX6_deathsThatFit 35 = .ok (.ifCond .eq 9, 3) := by decide +kernel
theorem dX6_deathsThatFit_38 : decode cX6_deathsThatFit 38 = .ok (.iload_n 2, 1) := by decide +kernel
theorem dX6_deathsThatFit_39 : decode cX6_deathsThatFit 39 = .ok (.iconst 1, 1) := by decide +kernel
theorem dX6_deathsThatFit_40 : decode cX6_deathsThatFit 40 = .ok (.iload_n 3, 1) := by decide +kernel
theorem dX6_deathsThatFit_41 : decode cX6_deathsThatFit 41 = .ok (.ishl, 1) := by decide +kernel
theorem dX6_deathsThatFit_42 : decode cX6_deathsThatFit 42 = .ok (.ior, 1) := by decide +kernel
theorem dX6_deathsThatFit_43 : decode cX6_deathsThatFit 43 = .ok (.istore_n 2, 1) := by decide +kernel
theorem dX6_deathsThatFit_44 : decode cX6_deathsThatFit 44 = .ok (.iinc 3 1, 3) := by decide +kernel
theorem dX6_deathsThatFit_47 : decode cX6_deathsThatFit 47 = .ok (.goto (-29), 3) := by decide +kernel
theorem dX6_deathsThatFit_50 : decode cX6_deathsThatFit 50 = .ok (.iload_n 2, 1) := by decide +kernel
theorem dX6_deathsThatFit_51 : decode cX6_deathsThatFit 51 = .ok (.ireturn, 1) := by decide +kernel
def fX6_deathsThatFit_18  : Nat → Nat → Int32 → Int32 → Int32 → zV → Option (Int32 × zV)
  | 0 => fun _ _ _ _ _ => none
  | n + 1 => fun x0 x1 x2 x3 v =>
    if (v (zrf x0 0) 1) ≤ x3 then
      some (x2, v)
    else
      zbind (fX6_holds x0 x1 x3 v) fun r_2 v_1 =>
      if r_2 = (0 : Int32) then
        (fX6_deathsThatFit_18 n) x0 x1 x2 (x3 + (1 : Int32)) v_1
      else
        (fX6_deathsThatFit_18 n) x0 x1 (x2 ||| ((1 : Int32) <<< (x3 &&& 31))) (x3 + (1 : Int32)) v_1
set_option maxRecDepth 4000 in
theorem jX6_deathsThatFit_18 (x : zCx) (G : zG) (F : zF x G cX6_deathsThatFit 4 RX6 7 217) (hr : x.2.2.2.2.2.2.2.2.1.sig.returnType = (Option.some FieldType.int)) (hk : x.2.2.2.2.2.2.2.2.1.locks = false) (r : Int32) (w : zV)  : ∀ (n : Nat) (x0 : Nat) (t0 : zty G x0 1 6) (x1 : Int32) (x2 : Int32) (x3 : Int32) (v : zV), fX6_deathsThatFit_18 n x0 x1 x2 x3 v = some (r, w) → zJ x G 4 (zQ x G (some (.int r)) w 0 0) 0 0 18 [(0, zr G x0), (1, .int x1), (2, .int x2), (3, .int x3)] [] v := by
  intro n
  induction n with
  | zero => intro x0 t0 x1 x2 x3 v h; exact absurd h (by intro q; cases q)
  | succ n ih =>
    intro x0 t0 x1 x2 x3 v h
    rw [fX6_deathsThatFit_18] at h
    dsimp only at h
    refine z_iload_n F dX6_deathsThatFit_18 rfl 3 rfl ?_
    refine z_aload_n F dX6_deathsThatFit_19 rfl 0 rfl ?_
    refine zg_6_0 F t0 wF_X6_25 dX6_deathsThatFit_20 ?_
    refine zg_0_1 F (zt_f tc_6_0 t0) wF_X6_90 dX6_deathsThatFit_23 ?_
    refine z_icmp_ge F 50 dX6_deathsThatFit_26 rfl (fun hc => ?_) (fun hc => ?_)
    · replace h := zif_t hc h
      refine z_iload_n F dX6_deathsThatFit_50 rfl 2 rfl ?_
      cases h
      exact z_reti F hr hk dX6_deathsThatFit_51
    · replace h := zif_f hc h
      refine z_aload_n F dX6_deathsThatFit_29 rfl 0 rfl ?_
      refine z_iload_n F dX6_deathsThatFit_30 rfl 1 rfl ?_
      refine z_iload_n F dX6_deathsThatFit_31 rfl 3 rfl ?_
      obtain ⟨r_2, v_1, hq32, h⟩ := zbind_ex h
      refine z_callVi F [.int x1, .int x3] [] (kX6_holds x.2.1 G x0 t0 x1 x3 v r_2 v_1 hq32) mI_X6_holds (c := 6) rfl t0 wM_X6_86 mi_X6_holds sl_X6_holds dX6_deathsThatFit_32 rfl ⟨Nat.le_of_ble_eq_true rfl, Nat.le_of_ble_eq_true rfl⟩ rfl (Nat.le_of_ble_eq_true rfl) ⟨Nat.zero_le _, Nat.zero_le _⟩ ?_
      refine z_if_eq F 44 dX6_deathsThatFit_35 rfl (fun hc => ?_) (fun hc => ?_)
      · replace h := zif_t hc h
        refine z_iinc F [(3, .int (x3 + (1 : Int32))), (0, zr G x0), (1, .int x1), (2, .int x2)] dX6_deathsThatFit_44 3 rfl rfl (Nat.le_of_ble_eq_true rfl) rfl ?_
        refine z_goto F 18 dX6_deathsThatFit_47 rfl ?_
        refine z_ls [(0, zr G x0), (1, .int x1), (2, .int x2), (3, .int (x3 + (1 : Int32)))] [1, 2, 3, 0] rfl ?_
        exact ih x0 t0 x1 x2 (x3 + (1 : Int32)) v_1 h
      · replace h := zif_f hc h
        refine z_iload_n F dX6_deathsThatFit_38 rfl 2 rfl ?_
        refine z_iconst (y := (1 : Int32)) F dX6_deathsThatFit_39 rfl ?_
        refine z_iload_n F dX6_deathsThatFit_40 rfl 3 rfl ?_
        refine z_ishl F dX6_deathsThatFit_41 ?_
        refine z_ior F dX6_deathsThatFit_42 ?_
        refine z_istore_n F [(2, .int (x2 ||| ((1 : Int32) <<< (x3 &&& 31)))), (0, zr G x0), (1, .int x1), (3, .int x3)] dX6_deathsThatFit_43 rfl (Nat.le_of_ble_eq_true rfl) rfl ?_
        refine z_iinc F [(3, .int (x3 + (1 : Int32))), (2, .int (x2 ||| ((1 : Int32) <<< (x3 &&& 31)))), (0, zr G x0), (1, .int x1)] dX6_deathsThatFit_44 3 rfl rfl (Nat.le_of_ble_eq_true rfl) rfl ?_
        refine z_goto F 18 dX6_deathsThatFit_47 rfl ?_
        refine z_ls [(0, zr G x0), (1, .int x1), (2, .int (x2 ||| ((1 : Int32) <<< (x3 &&& 31)))), (3, .int (x3 + (1 : Int32)))] [2, 3, 1, 0] rfl ?_
        exact ih x0 t0 x1 (x2 ||| ((1 : Int32) <<< (x3 &&& 31))) (x3 + (1 : Int32)) v_1 h

def fX6_deathsThatFit (x0 : Nat) (x1 : Int32) (v : zV) : Option (Int32 × zV) :=
  zbind (fX6_holds x0 (0 : Int32) (-1 : Int32) v) fun r_2 v_1 =>
  if r_2 = (0 : Int32) then
    fX6_deathsThatFit_18  zFU x0 x1 (0 : Int32) (0 : Int32) v_1
  else
    fX6_deathsThatFit_18  zFU x0 x1 (65536 : Int32) (0 : Int32) v_1
set_option maxRecDepth 4000 in
theorem kX6_deathsThatFit (l : Launch) (G : zG) (x0 : Nat) (t0 : zty G x0 1 6) (x1 : Int32) (v : zV) (r : Int32) (w : zV) (h : fX6_deathsThatFit x0 x1 v = some (r, w)) : zMet l yX6_deathsThatFit cX6_deathsThatFit 4 (Option.some FieldType.int) 7 217 0 0 [zr G x0, .int x1] G v (some (.int r)) w := by
  refine zM_of (own := RX6) (by decide) rfl (Nat.le_of_ble_eq_true rfl) (fun x hl F hr hk hcs => ?_)
  subst hl
  refine z_ls [(0, zr G x0), (1, .int x1)] [0, 1] rfl ?_
  unfold fX6_deathsThatFit at h
  refine z_aload_n F dX6_deathsThatFit_0 rfl 0 rfl ?_
  refine z_iconst (y := (0 : Int32)) F dX6_deathsThatFit_1 rfl ?_
  refine z_iconst (y := (-1 : Int32)) F dX6_deathsThatFit_2 rfl ?_
  obtain ⟨r_2, v_1, hq3, h⟩ := zbind_ex h
  refine z_callVi F [.int (0 : Int32), .int (-1 : Int32)] [] (kX6_holds x.2.1 G x0 t0 (0 : Int32) (-1 : Int32) v r_2 v_1 hq3) mI_X6_holds (c := 6) rfl t0 wM_X6_86 mi_X6_holds sl_X6_holds dX6_deathsThatFit_3 rfl ⟨Nat.le_of_ble_eq_true rfl, Nat.le_of_ble_eq_true rfl⟩ rfl (Nat.le_of_ble_eq_true rfl) ⟨Nat.zero_le _, Nat.zero_le _⟩ ?_
  refine z_if_eq F 14 dX6_deathsThatFit_6 rfl (fun hc => ?_) (fun hc => ?_)
  · replace h := zif_t hc h
    refine z_iconst (y := (0 : Int32)) F dX6_deathsThatFit_14 rfl ?_
    refine z_istore_n F [(2, .int (0 : Int32)), (0, zr G x0), (1, .int x1)] dX6_deathsThatFit_15 rfl (Nat.le_of_ble_eq_true rfl) rfl ?_
    refine z_iconst (y := (0 : Int32)) F dX6_deathsThatFit_16 rfl ?_
    refine z_istore_n F [(3, .int (0 : Int32)), (2, .int (0 : Int32)), (0, zr G x0), (1, .int x1)] dX6_deathsThatFit_17 rfl (Nat.le_of_ble_eq_true rfl) rfl ?_
    refine z_ls [(0, zr G x0), (1, .int x1), (2, .int (0 : Int32)), (3, .int (0 : Int32))] [2, 3, 1, 0] rfl ?_
    exact jX6_deathsThatFit_18 x G F hr hk r w   zFU x0 t0 x1 (0 : Int32) (0 : Int32) v_1 h
  · replace h := zif_f hc h
    refine z_ldc (y := (65536 : Int32)) F kC_RX6_89 dX6_deathsThatFit_9 ?_
    refine z_goto F 15 dX6_deathsThatFit_11 rfl ?_
    refine z_istore_n F [(2, .int (65536 : Int32)), (0, zr G x0), (1, .int x1)] dX6_deathsThatFit_15 rfl (Nat.le_of_ble_eq_true rfl) rfl ?_
    refine z_iconst (y := (0 : Int32)) F dX6_deathsThatFit_16 rfl ?_
    refine z_istore_n F [(3, .int (0 : Int32)), (2, .int (65536 : Int32)), (0, zr G x0), (1, .int x1)] dX6_deathsThatFit_17 rfl (Nat.le_of_ble_eq_true rfl) rfl ?_
    refine z_ls [(0, zr G x0), (1, .int x1), (2, .int (65536 : Int32)), (3, .int (0 : Int32))] [2, 3, 1, 0] rfl ?_
    exact jX6_deathsThatFit_18 x G F hr hk r w   zFU x0 t0 x1 (65536 : Int32) (0 : Int32) v_1 h

theorem dX6_noteWay_0 : decode cX6_noteWay 0 = .ok (.iconst 0, 1) := by decide +kernel
theorem dX6_noteWay_1 : decode cX6_noteWay 1 = .ok (.istore_n 2, 1) := by decide +kernel
theorem dX6_noteWay_2 : decode cX6_noteWay 2 = .ok (.iconst 0, 1) := by decide +kernel
theorem dX6_noteWay_3 : decode cX6_noteWay 3 = .ok (.istore_n 3, 1) := by decide +kernel
theorem dX6_noteWay_4 : decode cX6_noteWay 4 = .ok (.iload_n 3, 1) := by decide +kernel
theorem dX6_noteWay_5 : decode cX6_noteWay 5 = .ok (.aload_n 0, 1) := by decide +kernel
theorem dX6_noteWay_6 : decode cX6_noteWay 6 = .ok (.getfield 25, 3) := by decide +kernel
theorem dX6_noteWay_9 : decode cX6_noteWay 9 = .ok (.getfield 111, 3) := by decide +kernel
theorem dX6_noteWay_12 : decode cX6_noteWay 12 = .ok (.if_icmp .ge 49, 3) := by decide +kernel
theorem dX6_noteWay_15 : decode cX6_noteWay 15 = .ok (.aload_n 0, 1) := by decide +kernel
theorem dX6_noteWay_16 : decode cX6_noteWay 16 = .ok (.getfield 25, 3) := by decide +kernel
theorem dX6_noteWay_19 : decode cX6_noteWay 19 = .ok (.iload_n 1, 1) := by decide +kernel
theorem dX6_noteWay_20 : decode cX6_noteWay 20 = .ok (.iload_n 3, 1) := by decide +kernel
theorem dX6_noteWay_21 : decode cX6_noteWay 21 = .ok (.invokevirtual 114, 3) := by decide +kernel
theorem dX6_noteWay_24 : decode cX6_noteWay 24 = .ok (.istore 4, 2) := by decide +kernel
theorem dX6_noteWay_26 : decode cX6_noteWay 26 = .ok (.iload_n 2, 1) := by decide +kernel
theorem dX6_noteWay_27 : decode cX6_noteWay 27 = .ok (.bipush 10, 2) := by decide +kernel
theorem dX6_noteWay_29 : decode cX6_noteWay 29 = .ok (.imul, 1) := by decide +kernel
theorem dX6_noteWay_30 : decode cX6_noteWay 30 = .ok (.iload 4, 2) := by decide +kernel
theorem dX6_noteWay_32 : decode cX6_noteWay 32 = .ok (.iadd, 1) := by decide +kernel
theorem dX6_noteWay_33 : decode cX6_noteWay 33 = .ok (.istore_n 2, 1) := by decide +kernel
theorem dX6_noteWay_34 : decode cX6_noteWay 34 = .ok (.aload_n 0, 1) := by decide +kernel
theorem dX6_noteWay_35 : decode cX6_noteWay 35 = .ok (.getfield 22, 3) := by decide +kernel
theorem dX6_noteWay_38 : decode cX6_noteWay 38 = .ok (.iload_n 3, 1) := by decide +kernel
theorem dX6_noteWay_39 : decode cX6_noteWay 39 = .ok (.aload_n 0, 1) := by decide +kernel
theorem dX6_noteWay_40 : decode cX6_noteWay 40 = .ok (.getfield 22, 3) := by decide +kernel
theorem dX6_noteWay_43 : decode cX6_noteWay 43 = .ok (.iload_n 3, 1) := by decide +kernel
theorem dX6_noteWay_44 : decode cX6_noteWay 44 = .ok (.invokestatic 64, 3) := by decide +kernel
theorem dX6_noteWay_47 : decode cX6_noteWay 47 = .ok (.iconst 1, 1) := by decide +kernel
theorem dX6_noteWay_48 : decode cX6_noteWay 48 = .ok (.iload 4, 2) := by decide +kernel
theorem dX6_noteWay_50 : decode cX6_noteWay 50 = .ok (.ishl, 1) := by decide +kernel
theorem dX6_noteWay_51 : decode cX6_noteWay 51 = .ok (.ior, 1) := by decide +kernel
theorem dX6_noteWay_52 : decode cX6_noteWay 52 = .ok (.invokestatic 53, 3) := by decide +kernel
theorem dX6_noteWay_55 : decode cX6_noteWay 55 = .ok (.iinc 3 1, 3) := by decide +kernel
theorem dX6_noteWay_58 : decode cX6_noteWay 58 = .ok (.goto (-54), 3) := by decide +kernel
theorem dX6_noteWay_61 : decode cX6_noteWay 61 = .ok (.aload_n 0, 1) := by decide +kernel
theorem dX6_noteWay_62 : decode cX6_noteWay 62 = .ok (.aload_n 0, 1) := by decide +kernel
theorem dX6_noteWay_63 : decode cX6_noteWay 63 = .ok (.getfield 94, 3) := by decide +kernel
theorem dX6_noteWay_66 : decode cX6_noteWay 66 = .ok (.ifCond .ne 7, 3) := by decide +kernel
theorem dX6_noteWay_69 : decode cX6_noteWay 69 = .ok (.iload_n 2, 1) := by decide +kernel
theorem dX6_noteWay_70 : decode cX6_noteWay 70 = .ok (.goto 7, 3) := by decide +kernel
theorem dX6_noteWay_73 : decode cX6_noteWay 73 = .ok (.aload_n 0, 1) := by decide +kernel
theorem dX6_noteWay_74 : decode cX6_noteWay 74 = .ok (.getfield 97, 3) := by decide +kernel
theorem dX6_noteWay_77 : decode cX6_noteWay 77 = .ok (.putfield 97, 3) := by decide +kernel
theorem dX6_noteWay_80 : decode cX6_noteWay 80 = .ok (.aload_n 0, 1) := by decide +kernel
theorem dX6_noteWay_81 : decode cX6_noteWay 81 = .ok (.dup, 1) := by decide +kernel
theorem dX6_noteWay_82 : decode cX6_noteWay 82 = .ok (.getfield 94, 3) := by decide +kernel
theorem dX6_noteWay_85 : decode cX6_noteWay 85 = .ok (.iconst 1, 1) := by decide +kernel
theorem dX6_noteWay_86 : decode cX6_noteWay 86 = .ok (.iadd, 1) := by decide +kernel
theorem dX6_noteWay_87 : decode cX6_noteWay 87 = .ok (.putfield 94, 3) := by decide +kernel
theorem dX6_noteWay_90 : decode cX6_noteWay 90 = .ok (.return_, 1) := by decide +kernel
def fX6_noteWay_61  (x0 : Nat) (x2 : Int32) (v : zV) : Option zV :=
  if (v x0 6) = (0 : Int32) then
    zlet (zup v x0 7 x2) fun v_3 =>
    zlet (zup v_3 x0 6 ((v_3 x0 6) + (1 : Int32))) fun v_4 =>
    some v_4
  else
    zlet (zup v x0 7 (v x0 7)) fun v_1 =>
    zlet (zup v_1 x0 6 ((v_1 x0 6) + (1 : Int32))) fun v_2 =>
    some v_2
set_option maxRecDepth 4000 in
theorem jX6_noteWay_61 (x : zCx) (G : zG) (F : zF x G cX6_noteWay 5 RX6 3 123) (hr : x.2.2.2.2.2.2.2.2.1.sig.returnType = (Option.none : Option FieldType)) (hk : x.2.2.2.2.2.2.2.2.1.locks = false) (w : zV)  : ∀ (x0 : Nat) (t0 : zty G x0 1 6) (x2 : Int32) (v : zV), fX6_noteWay_61 x0 x2 v = some w → zJ x G 5 (zQ x G none w 0 0) 0 0 61 [(0, zr G x0), (2, .int x2)] [] v := by
  intro x0 t0 x2 v h
  unfold fX6_noteWay_61 at h
  refine z_aload_n F dX6_noteWay_61 rfl 0 rfl ?_
  refine z_aload_n F dX6_noteWay_62 rfl 0 rfl ?_
  refine zg_6_6 F t0 wF_X6_94 dX6_noteWay_63 ?_
  refine z_if_ne F 73 dX6_noteWay_66 rfl (fun hc => ?_) (fun hc => ?_)
  · replace h := zif_f hc h
    refine z_aload_n F dX6_noteWay_73 rfl 0 rfl ?_
    refine zg_6_7 F t0 wF_X6_97 dX6_noteWay_74 ?_
    refine zp_6_7 F t0 wF_X6_97 dX6_noteWay_77 ?_
    obtain ⟨v_1, ev_1, h⟩ := zlet_ex h
    refine z_heap ev_1 ?_
    refine z_aload_n F dX6_noteWay_80 rfl 0 rfl ?_
    refine z_dup F dX6_noteWay_81 rfl ?_
    refine zg_6_6 F t0 wF_X6_94 dX6_noteWay_82 ?_
    refine z_iconst (y := (1 : Int32)) F dX6_noteWay_85 rfl ?_
    refine z_iadd F dX6_noteWay_86 ?_
    refine zp_6_6 F t0 wF_X6_94 dX6_noteWay_87 ?_
    obtain ⟨v_2, ev_2, h⟩ := zlet_ex h
    refine z_heap ev_2 ?_
    cases h
    exact z_retv F hr hk dX6_noteWay_90
  · replace h := zif_t hc h
    refine z_iload_n F dX6_noteWay_69 rfl 1 rfl ?_
    refine z_goto F 77 dX6_noteWay_70 rfl ?_
    refine zp_6_7 F t0 wF_X6_97 dX6_noteWay_77 ?_
    obtain ⟨v_3, ev_3, h⟩ := zlet_ex h
    refine z_heap ev_3 ?_
    refine z_aload_n F dX6_noteWay_80 rfl 0 rfl ?_
    refine z_dup F dX6_noteWay_81 rfl ?_
    refine zg_6_6 F t0 wF_X6_94 dX6_noteWay_82 ?_
    refine z_iconst (y := (1 : Int32)) F dX6_noteWay_85 rfl ?_
    refine z_iadd F dX6_noteWay_86 ?_
    refine zp_6_6 F t0 wF_X6_94 dX6_noteWay_87 ?_
    obtain ⟨v_4, ev_4, h⟩ := zlet_ex h
    refine z_heap ev_4 ?_
    cases h
    exact z_retv F hr hk dX6_noteWay_90

def fX6_noteWay_4  : Nat → Nat → Int32 → Int32 → Int32 → zV → Option zV
  | 0 => fun _ _ _ _ _ => none
  | n + 1 => fun x0 x1 x2 x3 v =>
    if (v (zrf x0 0) 0) ≤ x3 then
      fX6_noteWay_61  x0 x2 v
    else
      zbind (fX0_sideOf (zrf x0 0) x1 x3 v) fun r_2 v_1 =>
      zbind (fX9_get (zrf x0 5) x3 v_1) fun r_4 v_3 =>
      zbindv (fX9_set (zrf x0 5) x3 (r_4 ||| ((1 : Int32) <<< (r_2 &&& 31))) v_3) fun v_5 =>
      (fX6_noteWay_4 n) x0 x1 ((x2 * (10 : Int32)) + r_2) (x3 + (1 : Int32)) v_5
set_option maxRecDepth 4000 in
theorem jX6_noteWay_4 (x : zCx) (G : zG) (F : zF x G cX6_noteWay 5 RX6 3 123) (hr : x.2.2.2.2.2.2.2.2.1.sig.returnType = (Option.none : Option FieldType)) (hk : x.2.2.2.2.2.2.2.2.1.locks = false) (w : zV)  : ∀ (n : Nat) (x0 : Nat) (t0 : zty G x0 1 6) (x1 : Int32) (x2 : Int32) (x3 : Int32) (v : zV), fX6_noteWay_4 n x0 x1 x2 x3 v = some w → zJ x G 5 (zQ x G none w 0 0) 0 0 4 [(0, zr G x0), (1, .int x1), (2, .int x2), (3, .int x3)] [] v := by
  intro n
  induction n with
  | zero => intro x0 t0 x1 x2 x3 v h; exact absurd h (by intro q; cases q)
  | succ n ih =>
    intro x0 t0 x1 x2 x3 v h
    rw [fX6_noteWay_4] at h
    dsimp only at h
    refine z_iload_n F dX6_noteWay_4 rfl 3 rfl ?_
    refine z_aload_n F dX6_noteWay_5 rfl 0 rfl ?_
    refine zg_6_0 F t0 wF_X6_25 dX6_noteWay_6 ?_
    refine zg_0_0 F (zt_f tc_6_0 t0) wF_X6_111 dX6_noteWay_9 ?_
    refine z_icmp_ge F 61 dX6_noteWay_12 rfl (fun hc => ?_) (fun hc => ?_)
    · replace h := zif_t hc h
      refine z_ls [(0, zr G x0), (2, .int x2)] [0, 2] rfl ?_
      exact jX6_noteWay_61 x G F hr hk w   x0 t0 x2 v h
    · replace h := zif_f hc h
      refine z_aload_n F dX6_noteWay_15 rfl 0 rfl ?_
      refine zg_6_0 F t0 wF_X6_25 dX6_noteWay_16 ?_
      refine z_iload_n F dX6_noteWay_19 rfl 1 rfl ?_
      refine z_iload_n F dX6_noteWay_20 rfl 3 rfl ?_
      obtain ⟨r_2, v_1, hq21, h⟩ := zbind_ex h
      refine z_callVi F [.int x1, .int x3] [] (kX0_sideOf x.2.1 G (zrf x0 0) (zt_f tc_6_0 t0) x1 x3 v r_2 v_1 hq21) mI_X0_sideOf (c := 0) rfl (zt_f tc_6_0 t0) wM_X6_114 mi_X0_sideOf sl_X0_sideOf dX6_noteWay_21 rfl ⟨Nat.le_of_ble_eq_true rfl, Nat.le_of_ble_eq_true rfl⟩ rfl (Nat.le_of_ble_eq_true rfl) ⟨Nat.zero_le _, Nat.zero_le _⟩ ?_
      refine z_istore (n := 0) F [(4, .int r_2), (0, zr G x0), (1, .int x1), (2, .int x2), (3, .int x3)] dX6_noteWay_24 (Nat.le_of_ble_eq_true rfl) rfl ?_
      refine z_iload_n F dX6_noteWay_26 rfl 3 rfl ?_
      refine z_bipush (y := (10 : Int32)) F dX6_noteWay_27 rfl ?_
      refine z_imul F dX6_noteWay_29 ?_
      refine z_iload F dX6_noteWay_30 0 rfl ?_
      refine z_iadd F dX6_noteWay_32 ?_
      refine z_istore_n F [(2, .int ((x2 * (10 : Int32)) + r_2)), (4, .int r_2), (0, zr G x0), (1, .int x1), (3, .int x3)] dX6_noteWay_33 rfl (Nat.le_of_ble_eq_true rfl) rfl ?_
      refine z_aload_n F dX6_noteWay_34 rfl 2 rfl ?_
      refine zg_6_5 F t0 wF_X6_22 dX6_noteWay_35 ?_
      refine z_iload_n F dX6_noteWay_38 rfl 4 rfl ?_
      refine z_aload_n F dX6_noteWay_39 rfl 2 rfl ?_
      refine zg_6_5 F t0 wF_X6_22 dX6_noteWay_40 ?_
      refine z_iload_n F dX6_noteWay_43 rfl 4 rfl ?_
      obtain ⟨r_4, v_3, hq44, h⟩ := zbind_ex h
      refine z_callSNi F [zr G (zrf x0 5), .int x3] [.int x3, zr G (zrf x0 5)] (kX9_get x.2.1 G (zrf x0 5) (zt_f tc_6_5 t0) x3 v_1 r_4 v_3 hq44) mI_X9_get wN_X6_64 ms_X9_get dX6_noteWay_44 rfl ⟨Nat.le_of_ble_eq_true rfl, Nat.le_of_ble_eq_true rfl⟩ rfl (Nat.le_of_ble_eq_true rfl) ⟨Nat.zero_le _, Nat.zero_le _⟩ ?_
      refine z_iconst (y := (1 : Int32)) F dX6_noteWay_47 rfl ?_
      refine z_iload F dX6_noteWay_48 1 rfl ?_
      refine z_ishl F dX6_noteWay_50 ?_
      refine z_ior F dX6_noteWay_51 ?_
      obtain ⟨v_5, hq52, h⟩ := zbindv_ex h
      refine z_callSNv F [zr G (zrf x0 5), .int x3, .int (r_4 ||| ((1 : Int32) <<< (r_2 &&& 31)))] [] (kX9_set x.2.1 G (zrf x0 5) (zt_f tc_6_5 t0) x3 (r_4 ||| ((1 : Int32) <<< (r_2 &&& 31))) v_3 v_5 hq52) mI_X9_set wN_X6_53 ms_X9_set dX6_noteWay_52 rfl ⟨Nat.le_of_ble_eq_true rfl, Nat.le_of_ble_eq_true rfl⟩ rfl (Nat.le_of_ble_eq_true rfl) ⟨Nat.zero_le _, Nat.zero_le _⟩ ?_
      refine z_iinc F [(3, .int (x3 + (1 : Int32))), (2, .int ((x2 * (10 : Int32)) + r_2)), (4, .int r_2), (0, zr G x0), (1, .int x1)] dX6_noteWay_55 4 rfl rfl (Nat.le_of_ble_eq_true rfl) rfl ?_
      refine z_goto F 4 dX6_noteWay_58 rfl ?_
      refine z_ls [(0, zr G x0), (1, .int x1), (2, .int ((x2 * (10 : Int32)) + r_2)), (3, .int (x3 + (1 : Int32)))] [3, 4, 1, 0] rfl ?_
      exact ih x0 t0 x1 ((x2 * (10 : Int32)) + r_2) (x3 + (1 : Int32)) v_5 h

def fX6_noteWay (x0 : Nat) (x1 : Int32) (v : zV) : Option zV :=
  fX6_noteWay_4  zFU x0 x1 (0 : Int32) (0 : Int32) v
set_option maxRecDepth 4000 in
theorem kX6_noteWay (l : Launch) (G : zG) (x0 : Nat) (t0 : zty G x0 1 6) (x1 : Int32) (v : zV) (w : zV) (h : fX6_noteWay x0 x1 v = some w) : zMet l yX6_noteWay cX6_noteWay 5 (Option.none : Option FieldType) 3 123 0 0 [zr G x0, .int x1] G v none w := by
  refine zM_of (own := RX6) (by decide) rfl (Nat.le_of_ble_eq_true rfl) (fun x hl F hr hk hcs => ?_)
  subst hl
  refine z_ls [(0, zr G x0), (1, .int x1)] [0, 1] rfl ?_
  unfold fX6_noteWay at h
  refine z_iconst (y := (0 : Int32)) F dX6_noteWay_0 rfl ?_
  refine z_istore_n F [(2, .int (0 : Int32)), (0, zr G x0), (1, .int x1)] dX6_noteWay_1 rfl (Nat.le_of_ble_eq_true rfl) rfl ?_
  refine z_iconst (y := (0 : Int32)) F dX6_noteWay_2 rfl ?_
  refine z_istore_n F [(3, .int (0 : Int32)), (2, .int (0 : Int32)), (0, zr G x0), (1, .int x1)] dX6_noteWay_3 rfl (Nat.le_of_ble_eq_true rfl) rfl ?_
  refine z_ls [(0, zr G x0), (1, .int x1), (2, .int (0 : Int32)), (3, .int (0 : Int32))] [2, 3, 1, 0] rfl ?_
  exact jX6_noteWay_4 x G F hr hk w   zFU x0 t0 x1 (0 : Int32) (0 : Int32) v h

theorem dX6_codeBehind_0 : decode cX6_codeBehind 0 = .ok (.iload_n 1, 1) := by decide +kernel
theorem dX6_codeBehind_1 : decode cX6_codeBehind 1 = .ok (.istore_n 2, 1) := by decide +kernel
theorem dX6_codeBehind_2 : decode cX6_codeBehind 2 = .ok (.aload_n 0, 1) := by decide +kernel
theorem dX6_codeBehind_3 : decode cX6_codeBehind 3 = .ok (.getfield 25, 3) := by decide +kernel
theorem dX6_codeBehind_6 : decode cX6_codeBehind 6 = .ok (.getfield 111, 3) := by decide +kernel
theorem dX6_codeBehind_9 : decode cX6_codeBehind 9 = .ok (.iconst 1, 1) := by decide +kernel
theorem dX6_codeBehind_10 : decode cX6_codeBehind 10 = .ok (.isub, 1) := by decide +kernel
theorem dX6_codeBehind_11 : decode cX6_codeBehind 11 = .ok (.istore_n 3, 1) := by decide +kernel
theorem dX6_codeBehind_12 : decode cX6_codeBehind 12 = .ok (.iload_n 3, 1) := by decide +kernel
theorem dX6_codeBehind_13 : decode cX6_codeBehind 13 = .ok (.ifCond .lt 53, 3) := by decide +kernel
theorem dX6_codeBehind_16 : decode cX6_codeBehind 16 = .ok (.iload_n 2, 1) := by decide +kernel
theorem dX6_codeBehind_17 : decode cX6_codeBehind 17 = .ok (.iconst 2, 1) := by decide +kernel
theorem dX6_codeBehind_18 : decode cX6_codeBehind 18 = .ok (.iload_n 3, 1) := by decide +kernel
theorem dX6_codeBehind_19 : decode cX6_codeBehind 19 = .ok (.imul, 1) := by decide +kernel
theorem dX6_codeBehind_20 : decode cX6_codeBehind 20 = .ok (.ishr, 1) := by decide +kernel
theorem dX6_codeBehind_21 : decode cX6_codeBehind 21 = .ok (.iconst 3, 1) := by decide +kernel
theorem dX6_codeBehind_22 : decode cX6_codeBehind 22 = .ok (.iand, 1) := by decide +kernel
theorem dX6_codeBehind_23 : decode cX6_codeBehind 23 = .ok (.istore 4, 2) := by decide +kernel
theorem dX6_codeBehind_25 : decode cX6_codeBehind 25 = .ok (.iload 4, 2) := by decide +kernel
theorem dX6_codeBehind_27 : decode cX6_codeBehind 27 = .ok (.iconst 1, 1) := by decide +kernel
theorem dX6_codeBehind_28 : decode cX6_codeBehind 28 = .ok (.iadd, 1) := by decide +kernel
theorem dX6_codeBehind_29 : decode cX6_codeBehind 29 = .ok (.aload_n 0, 1) := by decide +kernel
theorem dX6_codeBehind_30 : decode cX6_codeBehind 30 = .ok (.getfield 25, 3) := by decide +kernel
theorem dX6_codeBehind_33 : decode cX6_codeBehind 33 = .ok (.getfield 118, 3) := by decide +kernel
theorem dX6_codeBehind_36 : decode cX6_codeBehind 36 = .ok (.iload_n 3, 1) := by decide +kernel
theorem dX6_codeBehind_37 : decode cX6_codeBehind 37 = .ok (.invokestatic 64, 3) := by decide +kernel
theorem dX6_codeBehind_40 : decode cX6_codeBehind 40 = .ok (.if_icmp .ge 11, 3) := by decide +kernel
theorem dX6_codeBehind_43 : decode cX6_codeBehind 43 = .ok (.iload_n 2, 1) := by decide +kernel
theorem dX6_codeBehind_44 : decode cX6_codeBehind 44 = .ok (.iconst 1, 1) := by decide +kernel
theorem dX6_codeBehind_45 : decode cX6_codeBehind 45 = .ok (.iconst 2, 1) := by decide +kernel
theorem dX6_codeBehind_46 : decode cX6_codeBehind 46 = .ok (.iload_n 3, 1) := by decide +kernel
theorem dX6_codeBehind_47 : decode cX6_codeBehind 47 = .ok (.imul, 1) := by decide +kernel
theorem dX6_codeBehind_48 : decode cX6_codeBehind 48 = .ok (.ishl, 1) := by decide +kernel
theorem dX6_codeBehind_49 : decode cX6_codeBehind 49 = .ok (.iadd, 1) := by decide +kernel
theorem dX6_codeBehind_50 : decode cX6_codeBehind 50 = .ok (.ireturn, 1) := by decide +kernel
theorem dX6_codeBehind_51 : decode cX6_codeBehind 51 = .ok (.iload_n 2, 1) := by decide +kernel
theorem dX6_codeBehind_52 : decode cX6_codeBehind 52 = .ok (.iload 4, 2) := by decide +kernel
theorem dX6_codeBehind_54 : decode cX6_codeBehind 54 = .ok (.iconst 2, 1) := by decide +kernel
theorem dX6_codeBehind_55 : decode cX6_codeBehind 55 = .ok (.iload_n 3, 1) := by decide +kernel
theorem dX6_codeBehind_56 : decode cX6_codeBehind 56 = .ok (.imul, 1) := by decide +kernel
theorem dX6_codeBehind_57 : decode cX6_codeBehind 57 = .ok (.ishl, 1) := by decide +kernel
theorem dX6_codeBehind_58 : decode cX6_codeBehind 58 = .ok (.isub, 1) := by decide +kernel
theorem dX6_codeBehind_59 : decode cX6_codeBehind 59 = .ok (.istore_n 2, 1) := by decide +kernel
theorem dX6_codeBehind_60 : decode cX6_codeBehind 60 = .ok (.iinc 3 (-1), 3) := by decide +kernel
theorem dX6_codeBehind_63 : decode cX6_codeBehind 63 = .ok (.goto (-51), 3) := by decide +kernel
theorem dX6_codeBehind_66 : decode cX6_codeBehind 66 = .ok (.iconst (-1), 1) := by decide +kernel
theorem dX6_codeBehind_67 : decode cX6_codeBehind 67 = .ok (.ireturn, 1) := by decide +kernel
def fX6_codeBehind_12  : Nat → Nat → Int32 → Int32 → zV → Option (Int32 × zV)
  | 0 => fun _ _ _ _ => none
  | n + 1 => fun x0 x2 x3 v =>
    if x3 < (0 : Int32) then
      some ((-1 : Int32), v)
    else
      zbind (fX9_get (zrf (zrf x0 0) 7) x3 v) fun r_2 v_1 =>
      if r_2 ≤ (((x2 >>> (((2 : Int32) * x3) &&& 31)) &&& (3 : Int32)) + (1 : Int32)) then
        zlet (x2 - (((x2 >>> (((2 : Int32) * x3) &&& 31)) &&& (3 : Int32)) <<< (((2 : Int32) * x3) &&& 31))) fun y_3 =>
        (fX6_codeBehind_12 n) x0 y_3 (x3 + (-1 : Int32)) v_1
      else
        some (x2 + ((1 : Int32) <<< (((2 : Int32) * x3) &&& 31)), v_1)
set_option maxRecDepth 4000 in
theorem jX6_codeBehind_12 (x : zCx) (G : zG) (F : zF x G cX6_codeBehind 5 RX6 2 101) (hr : x.2.2.2.2.2.2.2.2.1.sig.returnType = (Option.some FieldType.int)) (hk : x.2.2.2.2.2.2.2.2.1.locks = false) (r : Int32) (w : zV)  : ∀ (n : Nat) (x0 : Nat) (t0 : zty G x0 1 6) (x2 : Int32) (x3 : Int32) (v : zV), fX6_codeBehind_12 n x0 x2 x3 v = some (r, w) → zJ x G 5 (zQ x G (some (.int r)) w 0 0) 0 0 12 [(0, zr G x0), (2, .int x2), (3, .int x3)] [] v := by
  intro n
  induction n with
  | zero => intro x0 t0 x2 x3 v h; exact absurd h (by intro q; cases q)
  | succ n ih =>
    intro x0 t0 x2 x3 v h
    rw [fX6_codeBehind_12] at h
    dsimp only at h
    refine z_iload_n F dX6_codeBehind_12 rfl 2 rfl ?_
    refine z_if_lt F 66 dX6_codeBehind_13 rfl (fun hc => ?_) (fun hc => ?_)
    · replace h := zif_t hc h
      refine z_iconst (y := (-1 : Int32)) F dX6_codeBehind_66 rfl ?_
      cases h
      exact z_reti F hr hk dX6_codeBehind_67
    · replace h := zif_f hc h
      refine z_iload_n F dX6_codeBehind_16 rfl 1 rfl ?_
      refine z_iconst (y := (2 : Int32)) F dX6_codeBehind_17 rfl ?_
      refine z_iload_n F dX6_codeBehind_18 rfl 2 rfl ?_
      refine z_imul F dX6_codeBehind_19 ?_
      refine z_ishr F dX6_codeBehind_20 ?_
      refine z_iconst (y := (3 : Int32)) F dX6_codeBehind_21 rfl ?_
      refine z_iand F dX6_codeBehind_22 ?_
      refine z_istore (n := 0) F [(4, .int ((x2 >>> (((2 : Int32) * x3) &&& 31)) &&& (3 : Int32))), (0, zr G x0), (2, .int x2), (3, .int x3)] dX6_codeBehind_23 (Nat.le_of_ble_eq_true rfl) rfl ?_
      refine z_iload F dX6_codeBehind_25 0 rfl ?_
      refine z_iconst (y := (1 : Int32)) F dX6_codeBehind_27 rfl ?_
      refine z_iadd F dX6_codeBehind_28 ?_
      refine z_aload_n F dX6_codeBehind_29 rfl 1 rfl ?_
      refine zg_6_0 F t0 wF_X6_25 dX6_codeBehind_30 ?_
      refine zg_0_7 F (zt_f tc_6_0 t0) wF_X6_118 dX6_codeBehind_33 ?_
      refine z_iload_n F dX6_codeBehind_36 rfl 3 rfl ?_
      obtain ⟨r_2, v_1, hq37, h⟩ := zbind_ex h
      refine z_callSNi F [zr G (zrf (zrf x0 0) 7), .int x3] [.int (((x2 >>> (((2 : Int32) * x3) &&& 31)) &&& (3 : Int32)) + (1 : Int32))] (kX9_get x.2.1 G (zrf (zrf x0 0) 7) (zt_f tc_0_7 (zt_f tc_6_0 t0)) x3 v r_2 v_1 hq37) mI_X9_get wN_X6_64 ms_X9_get dX6_codeBehind_37 rfl ⟨Nat.le_of_ble_eq_true rfl, Nat.le_of_ble_eq_true rfl⟩ rfl (Nat.le_of_ble_eq_true rfl) ⟨Nat.zero_le _, Nat.zero_le _⟩ ?_
      refine z_icmp_ge F 51 dX6_codeBehind_40 rfl (fun hc => ?_) (fun hc => ?_)
      · replace h := zif_t hc h
        refine z_iload_n F dX6_codeBehind_51 rfl 2 rfl ?_
        refine z_iload F dX6_codeBehind_52 0 rfl ?_
        refine z_iconst (y := (2 : Int32)) F dX6_codeBehind_54 rfl ?_
        refine z_iload_n F dX6_codeBehind_55 rfl 3 rfl ?_
        refine z_imul F dX6_codeBehind_56 ?_
        refine z_ishl F dX6_codeBehind_57 ?_
        refine z_isub F dX6_codeBehind_58 ?_
        obtain ⟨y_3, ey_3, h⟩ := zlet_ex h
        refine z_topi ey_3 ?_
        refine z_istore_n F [(2, .int y_3), (4, .int ((x2 >>> (((2 : Int32) * x3) &&& 31)) &&& (3 : Int32))), (0, zr G x0), (3, .int x3)] dX6_codeBehind_59 rfl (Nat.le_of_ble_eq_true rfl) rfl ?_
        refine z_iinc F [(3, .int (x3 + (-1 : Int32))), (2, .int y_3), (4, .int ((x2 >>> (((2 : Int32) * x3) &&& 31)) &&& (3 : Int32))), (0, zr G x0)] dX6_codeBehind_60 3 rfl rfl (Nat.le_of_ble_eq_true rfl) rfl ?_
        refine z_goto F 12 dX6_codeBehind_63 rfl ?_
        refine z_ls [(0, zr G x0), (2, .int y_3), (3, .int (x3 + (-1 : Int32)))] [3, 1, 0] rfl ?_
        exact ih x0 t0 y_3 (x3 + (-1 : Int32)) v_1 h
      · replace h := zif_f hc h
        refine z_iload_n F dX6_codeBehind_43 rfl 2 rfl ?_
        refine z_iconst (y := (1 : Int32)) F dX6_codeBehind_44 rfl ?_
        refine z_iconst (y := (2 : Int32)) F dX6_codeBehind_45 rfl ?_
        refine z_iload_n F dX6_codeBehind_46 rfl 3 rfl ?_
        refine z_imul F dX6_codeBehind_47 ?_
        refine z_ishl F dX6_codeBehind_48 ?_
        refine z_iadd F dX6_codeBehind_49 ?_
        cases h
        exact z_reti F hr hk dX6_codeBehind_50

def fX6_codeBehind (x0 : Nat) (x1 : Int32) (v : zV) : Option (Int32 × zV) :=
  fX6_codeBehind_12  zFU x0 x1 ((v (zrf x0 0) 0) - (1 : Int32)) v
set_option maxRecDepth 4000 in
theorem kX6_codeBehind (l : Launch) (G : zG) (x0 : Nat) (t0 : zty G x0 1 6) (x1 : Int32) (v : zV) (r : Int32) (w : zV) (h : fX6_codeBehind x0 x1 v = some (r, w)) : zMet l yX6_codeBehind cX6_codeBehind 5 (Option.some FieldType.int) 2 101 0 0 [zr G x0, .int x1] G v (some (.int r)) w := by
  refine zM_of (own := RX6) (by decide) rfl (Nat.le_of_ble_eq_true rfl) (fun x hl F hr hk hcs => ?_)
  subst hl
  refine z_ls [(0, zr G x0), (1, .int x1)] [0, 1] rfl ?_
  unfold fX6_codeBehind at h
  refine z_iload_n F dX6_codeBehind_0 rfl 1 rfl ?_
  refine z_istore_n F [(2, .int x1), (0, zr G x0), (1, .int x1)] dX6_codeBehind_1 rfl (Nat.le_of_ble_eq_true rfl) rfl ?_
  refine z_aload_n F dX6_codeBehind_2 rfl 1 rfl ?_
  refine zg_6_0 F t0 wF_X6_25 dX6_codeBehind_3 ?_
  refine zg_0_0 F (zt_f tc_6_0 t0) wF_X6_111 dX6_codeBehind_6 ?_
  refine z_iconst (y := (1 : Int32)) F dX6_codeBehind_9 rfl ?_
  refine z_isub F dX6_codeBehind_10 ?_
  refine z_istore_n F [(3, .int ((v (zrf x0 0) 0) - (1 : Int32))), (2, .int x1), (0, zr G x0), (1, .int x1)] dX6_codeBehind_11 rfl (Nat.le_of_ble_eq_true rfl) rfl ?_
  refine z_ls [(0, zr G x0), (2, .int x1), (3, .int ((v (zrf x0 0) 0) - (1 : Int32)))] [2, 1, 0] rfl ?_
  exact jX6_codeBehind_12 x G F hr hk r w   zFU x0 t0 x1 ((v (zrf x0 0) 0) - (1 : Int32)) v h

theorem dX6_tryBeliefs_0 : decode cX6_tryBeliefs 0 = .ok (.aload_n 0, 1) := by decide +kernel
theorem dX6_tryBeliefs_1 : decode cX6_tryBeliefs 1 = .ok (.iconst 0, 1) := by decide +kernel
theorem dX6_tryBeliefs_2 : decode cX6_tryBeliefs 2 = .ok (.putfield 94, 3) := by decide +kernel
theorem dX6_tryBeliefs_5 : decode cX6_tryBeliefs 5 = .ok (.aload_n 0, 1) := by decide +kernel
theorem dX6_tryBeliefs_6 : decode cX6_tryBeliefs 6 = .ok (.iconst (-1), 1) := by decide +kernel
theorem dX6_tryBeliefs_7 : decode cX6_tryBeliefs 7 = .ok (.putfield 97, 3) := by decide +kernel
theorem dX6_tryBeliefs_10 : decode cX6_tryBeliefs 10 = .ok (.iconst 0, 1) := by decide +kernel
theorem dX6_tryBeliefs_11 : decode cX6_tryBeliefs 11 = .ok (.istore_n 2, 1) := by decide +kernel
theorem dX6_tryBeliefs_12 : decode cX6_tryBeliefs 12 = .ok (.iload_n 2, 1) := by decide +kernel
theorem dX6_tryBeliefs_13 : decode cX6_tryBeliefs 13 = .ok (.aload_n 0, 1) := by decide +kernel
theorem dX6_tryBeliefs_14 : decode cX6_tryBeliefs 14 = .ok (.getfield 22, 3) := by decide +kernel
theorem dX6_tryBeliefs_17 : decode cX6_tryBeliefs 17 = .ok (.arraylength, 1) := by decide +kernel
theorem dX6_tryBeliefs_18 : decode cX6_tryBeliefs 18 = .ok (.if_icmp .ge 16, 3) := by decide +kernel
theorem dX6_tryBeliefs_21 : decode cX6_tryBeliefs 21 = .ok (.aload_n 0, 1) := by decide +kernel
theorem dX6_tryBeliefs_22 : decode cX6_tryBeliefs 22 = .ok (.getfield 22, 3) := by decide +kernel
theorem dX6_tryBeliefs_25 : decode cX6_tryBeliefs 25 = .ok (.iload_n 2, 1) := by decide +kernel
theorem dX6_tryBeliefs_26 : decode cX6_tryBeliefs 26 = .ok (.iconst 0, 1) := by decide +kernel
theorem dX6_tryBeliefs_27 : decode cX6_tryBeliefs 27 = .ok (.iastore, 1) := by decide +kernel
theorem dX6_tryBeliefs_28 : decode cX6_tryBeliefs 28 = .ok (.iinc 2 1, 3) := by decide +kernel
theorem dX6_tryBeliefs_31 : decode cX6_tryBeliefs 31 = .ok (.goto (-19), 3) := by decide +kernel
theorem dX6_tryBeliefs_34 : decode cX6_tryBeliefs 34 = .ok (.aload_n 0, 1) := by decide +kernel
theorem dX6_tryBeliefs_35 : decode cX6_tryBeliefs 35 = .ok (.getfield 25, 3) := by decide +kernel
theorem dX6_tryBeliefs_38 : decode cX6_tryBeliefs 38 = .ok (.getfield 100, 3) := by decide +kernel
theorem dX6_tryBeliefs_41 : decode cX6_tryBeliefs 41 = .ok (.iload_n 1, 1) := by decide +kernel
theorem dX6_tryBeliefs_42 : decode cX6_tryBeliefs 42 = .ok (.invokestatic 64, 3) := by decide +kernel
theorem dX6_tryBeliefs_45 : decode cX6_tryBeliefs 45 = .ok (.istore_n 2, 1) := by decide +kernel
theorem dX6_tryBeliefs_46 : decode cX6_tryBeliefs 46 = .ok (.iconst 0, 1) := by decide +kernel
theorem dX6_tryBeliefs_47 : decode cX6_tryBeliefs 47 = .ok (.istore_n 3, 1) := by decide +kernel
theorem dX6_tryBeliefs_48 : decode cX6_tryBeliefs 48 = .ok (.iconst 0, 1) := by decide +kernel
theorem dX6_tryBeliefs_49 : decode cX6_tryBeliefs 49 = .ok (.istore 4, 2) := by decide +kernel
theorem dX6_tryBeliefs_51 : decode cX6_tryBeliefs 51 = .ok (.iload 4, 2) := by decide +kernel
theorem dX6_tryBeliefs_53 : decode cX6_tryBeliefs 53 = .ok (.sipush 729, 3) := by decide +kernel
theorem dX6_tryBeliefs_56 : decode cX6_tryBeliefs 56 = .ok (.if_icmp .ge 46, 3) := by decide +kernel
theorem dX6_tryBeliefs_59 : decode cX6_tryBeliefs 59 = .ok (.iload_n 3, 1) := by decide +kernel
theorem dX6_tryBeliefs_60 : decode cX6_tryBeliefs 60 = .ok (.iconst (-1), 1) := by decide +kernel
theorem dX6_tryBeliefs_61 : decode cX6_tryBeliefs 61 = .ok (.if_icmp .eq 41, 3) := by decide +kernel
theorem dX6_tryBeliefs_64 : decode cX6_tryBeliefs 64 = .ok (.aload_n 0, 1) := by decide +kernel
theorem dX6_tryBeliefs_65 : decode cX6_tryBeliefs 65 = .ok (.getfield 25, 3) := by decide +kernel
theorem dX6_tryBeliefs_68 : decode cX6_tryBeliefs 68 = .ok (.getfield 100, 3) := by decide +kernel
theorem dX6_tryBeliefs_71 : decode cX6_tryBeliefs 71 = .ok (.iload_n 1, 1) := by decide +kernel
theorem dX6_tryBeliefs_72 : decode cX6_tryBeliefs 72 = .ok (.iload_n 3, 1) := by decide +kernel
theorem dX6_tryBeliefs_73 : decode cX6_tryBeliefs 73 = .ok (.invokestatic 53, 3) := by decide +kernel
theorem dX6_tryBeliefs_76 : decode cX6_tryBeliefs 76 = .ok (.aload_n 0, 1) := by decide +kernel
theorem dX6_tryBeliefs_77 : decode cX6_tryBeliefs 77 = .ok (.iconst 0, 1) := by decide +kernel
theorem dX6_tryBeliefs_78 : decode cX6_tryBeliefs 78 = .ok (.iconst (-1), 1) := by decide +kernel
theorem dX6_tryBeliefs_79 : decode cX6_tryBeliefs 79 = .ok (.invokevirtual 86, 3) := by decide +kernel
theorem dX6_tryBeliefs_82 : decode cX6_tryBeliefs 82 = .ok (.ifCond .eq 8, 3) := by decide +kernel
theorem dX6_tryBeliefs_85 : decode cX6_tryBeliefs 85 = .ok (.aload_n 0, 1) := by decide +kernel
theorem dX6_tryBeliefs_86 : decode cX6_tryBeliefs 86 = .ok (.iload_n 1, 1) := by decide +kernel
theorem dX6_tryBeliefs_87 : decode cX6_tryBeliefs 87 = .ok (.invokevirtual 103, 3) := by decide +kernel
theorem dX6_tryBeliefs_90 : decode cX6_tryBeliefs 90 = .ok (.aload_n 0, 1) := by decide +kernel
theorem dX6_tryBeliefs_91 : decode cX6_tryBeliefs 91 = .ok (.iload_n 3, 1) := by decide +kernel
theorem dX6_tryBeliefs_92 : decode cX6_tryBeliefs 92 = .ok (.invokevirtual 107, 3) := by decide +kernel
theorem dX6_tryBeliefs_95 : decode cX6_tryBeliefs 95 = .ok (.istore_n 3, 1) := by decide +kernel
theorem dX6_tryBeliefs_96 : decode cX6_tryBeliefs 96 = .ok (.iinc 4 1, 3) := by decide +kernel
theorem dX6_tryBeliefs_99 : decode cX6_tryBeliefs 99 = .ok (.goto (-48), 3) := by decide +kernel
theorem dX6_tryBeliefs_102 : decode cX6_tryBeliefs 102 = .ok (.aload_n 0, 1) := by decide +kernel
theorem dX6_tryBeliefs_103 : decode cX6_tryBeliefs 103 = .ok (.getfield 25, 3) := by decide +kernel
theorem dX6_tryBeliefs_106 : decode cX6_tryBeliefs 106 = .ok (.getfield 100, 3) := by decide +kernel
theorem dX6_tryBeliefs_109 : decode cX6_tryBeliefs 109 = .ok (.iload_n 1, 1) := by decide +kernel
theorem dX6_tryBeliefs_110 : decode cX6_tryBeliefs 110 = .ok (.iload_n 2, 1) := by decide +kernel
theorem dX6_tryBeliefs_111 : decode cX6_tryBeliefs 111 = .ok (.invokestatic 53, 3) := by decide +kernel
theorem dX6_tryBeliefs_114 : decode cX6_tryBeliefs 114 = .ok (.return_, 1) := by decide +kernel
def fX6_tryBeliefs_51  : Nat → Nat → Int32 → Int32 → Int32 → Int32 → zV → Option zV
  | 0 => fun _ _ _ _ _ _ => none
  | n + 1 => fun x0 x1 x2 x3 x4 v =>
    if (729 : Int32) ≤ x4 then
      zbindv (fX9_set (zrf (zrf x0 0) 9) x1 x2 v) fun v_1 =>
      some v_1
    else
      if x3 = (-1 : Int32) then
        zbindv (fX9_set (zrf (zrf x0 0) 9) x1 x2 v) fun v_2 =>
        some v_2
      else
        zbindv (fX9_set (zrf (zrf x0 0) 9) x1 x3 v) fun v_3 =>
        zbind (fX6_holds x0 (0 : Int32) (-1 : Int32) v_3) fun r_5 v_4 =>
        if r_5 = (0 : Int32) then
          zbind (fX6_codeBehind x0 x3 v_4) fun r_7 v_6 =>
          (fX6_tryBeliefs_51 n) x0 x1 x2 r_7 (x4 + (1 : Int32)) v_6
        else
          zbindv (fX6_noteWay x0 x1 v_4) fun v_8 =>
          zbind (fX6_codeBehind x0 x3 v_8) fun r_10 v_9 =>
          (fX6_tryBeliefs_51 n) x0 x1 x2 r_10 (x4 + (1 : Int32)) v_9
set_option maxRecDepth 4000 in
theorem jX6_tryBeliefs_51 (x : zCx) (G : zG) (F : zF x G cX6_tryBeliefs 5 RX6 7 217) (hr : x.2.2.2.2.2.2.2.2.1.sig.returnType = (Option.none : Option FieldType)) (hk : x.2.2.2.2.2.2.2.2.1.locks = false) (w : zV)  : ∀ (n : Nat) (x0 : Nat) (t0 : zty G x0 1 6) (x1 : Int32) (x2 : Int32) (x3 : Int32) (x4 : Int32) (v : zV), fX6_tryBeliefs_51 n x0 x1 x2 x3 x4 v = some w → zJ x G 5 (zQ x G none w 0 0) 0 0 51 [(0, zr G x0), (1, .int x1), (2, .int x2), (3, .int x3), (4, .int x4)] [] v := by
  intro n
  induction n with
  | zero => intro x0 t0 x1 x2 x3 x4 v h; exact absurd h (by intro q; cases q)
  | succ n ih =>
    intro x0 t0 x1 x2 x3 x4 v h
    rw [fX6_tryBeliefs_51] at h
    dsimp only at h
    refine z_iload F dX6_tryBeliefs_51 4 rfl ?_
    refine z_sipush (y := (729 : Int32)) F dX6_tryBeliefs_53 rfl ?_
    refine z_icmp_ge F 102 dX6_tryBeliefs_56 rfl (fun hc => ?_) (fun hc => ?_)
    · replace h := zif_t hc h
      refine z_aload_n F dX6_tryBeliefs_102 rfl 0 rfl ?_
      refine zg_6_0 F t0 wF_X6_25 dX6_tryBeliefs_103 ?_
      refine zg_0_9 F (zt_f tc_6_0 t0) wF_X6_100 dX6_tryBeliefs_106 ?_
      refine z_iload_n F dX6_tryBeliefs_109 rfl 1 rfl ?_
      refine z_iload_n F dX6_tryBeliefs_110 rfl 2 rfl ?_
      obtain ⟨v_1, hq111, h⟩ := zbindv_ex h
      refine z_callSNv F [zr G (zrf (zrf x0 0) 9), .int x1, .int x2] [] (kX9_set x.2.1 G (zrf (zrf x0 0) 9) (zt_f tc_0_9 (zt_f tc_6_0 t0)) x1 x2 v v_1 hq111) mI_X9_set wN_X6_53 ms_X9_set dX6_tryBeliefs_111 rfl ⟨Nat.le_of_ble_eq_true rfl, Nat.le_of_ble_eq_true rfl⟩ rfl (Nat.le_of_ble_eq_true rfl) ⟨Nat.zero_le _, Nat.zero_le _⟩ ?_
      cases h
      exact z_retv F hr hk dX6_tryBeliefs_114
    · replace h := zif_f hc h
      refine z_iload_n F dX6_tryBeliefs_59 rfl 3 rfl ?_
      refine z_iconst (y := (-1 : Int32)) F dX6_tryBeliefs_60 rfl ?_
      refine z_icmp_eq F 102 dX6_tryBeliefs_61 rfl (fun hc => ?_) (fun hc => ?_)
      · replace h := zif_t hc h
        refine z_aload_n F dX6_tryBeliefs_102 rfl 0 rfl ?_
        refine zg_6_0 F t0 wF_X6_25 dX6_tryBeliefs_103 ?_
        refine zg_0_9 F (zt_f tc_6_0 t0) wF_X6_100 dX6_tryBeliefs_106 ?_
        refine z_iload_n F dX6_tryBeliefs_109 rfl 1 rfl ?_
        refine z_iload_n F dX6_tryBeliefs_110 rfl 2 rfl ?_
        obtain ⟨v_2, hq111, h⟩ := zbindv_ex h
        refine z_callSNv F [zr G (zrf (zrf x0 0) 9), .int x1, .int x2] [] (kX9_set x.2.1 G (zrf (zrf x0 0) 9) (zt_f tc_0_9 (zt_f tc_6_0 t0)) x1 x2 v v_2 hq111) mI_X9_set wN_X6_53 ms_X9_set dX6_tryBeliefs_111 rfl ⟨Nat.le_of_ble_eq_true rfl, Nat.le_of_ble_eq_true rfl⟩ rfl (Nat.le_of_ble_eq_true rfl) ⟨Nat.zero_le _, Nat.zero_le _⟩ ?_
        cases h
        exact z_retv F hr hk dX6_tryBeliefs_114
      · replace h := zif_f hc h
        refine z_aload_n F dX6_tryBeliefs_64 rfl 0 rfl ?_
        refine zg_6_0 F t0 wF_X6_25 dX6_tryBeliefs_65 ?_
        refine zg_0_9 F (zt_f tc_6_0 t0) wF_X6_100 dX6_tryBeliefs_68 ?_
        refine z_iload_n F dX6_tryBeliefs_71 rfl 1 rfl ?_
        refine z_iload_n F dX6_tryBeliefs_72 rfl 3 rfl ?_
        obtain ⟨v_3, hq73, h⟩ := zbindv_ex h
        refine z_callSNv F [zr G (zrf (zrf x0 0) 9), .int x1, .int x3] [] (kX9_set x.2.1 G (zrf (zrf x0 0) 9) (zt_f tc_0_9 (zt_f tc_6_0 t0)) x1 x3 v v_3 hq73) mI_X9_set wN_X6_53 ms_X9_set dX6_tryBeliefs_73 rfl ⟨Nat.le_of_ble_eq_true rfl, Nat.le_of_ble_eq_true rfl⟩ rfl (Nat.le_of_ble_eq_true rfl) ⟨Nat.zero_le _, Nat.zero_le _⟩ ?_
        refine z_aload_n F dX6_tryBeliefs_76 rfl 0 rfl ?_
        refine z_iconst (y := (0 : Int32)) F dX6_tryBeliefs_77 rfl ?_
        refine z_iconst (y := (-1 : Int32)) F dX6_tryBeliefs_78 rfl ?_
        obtain ⟨r_5, v_4, hq79, h⟩ := zbind_ex h
        refine z_callVi F [.int (0 : Int32), .int (-1 : Int32)] [] (kX6_holds x.2.1 G x0 t0 (0 : Int32) (-1 : Int32) v_3 r_5 v_4 hq79) mI_X6_holds (c := 6) rfl t0 wM_X6_86 mi_X6_holds sl_X6_holds dX6_tryBeliefs_79 rfl ⟨Nat.le_of_ble_eq_true rfl, Nat.le_of_ble_eq_true rfl⟩ rfl (Nat.le_of_ble_eq_true rfl) ⟨Nat.zero_le _, Nat.zero_le _⟩ ?_
        refine z_if_eq F 90 dX6_tryBeliefs_82 rfl (fun hc => ?_) (fun hc => ?_)
        · replace h := zif_t hc h
          refine z_aload_n F dX6_tryBeliefs_90 rfl 0 rfl ?_
          refine z_iload_n F dX6_tryBeliefs_91 rfl 3 rfl ?_
          obtain ⟨r_7, v_6, hq92, h⟩ := zbind_ex h
          refine z_callVi F [.int x3] [] (kX6_codeBehind x.2.1 G x0 t0 x3 v_4 r_7 v_6 hq92) mI_X6_codeBehind (c := 6) rfl t0 wM_X6_107 mi_X6_codeBehind sl_X6_codeBehind dX6_tryBeliefs_92 rfl ⟨Nat.le_of_ble_eq_true rfl, Nat.le_of_ble_eq_true rfl⟩ rfl (Nat.le_of_ble_eq_true rfl) ⟨Nat.zero_le _, Nat.zero_le _⟩ ?_
          refine z_istore_n F [(3, .int r_7), (0, zr G x0), (1, .int x1), (2, .int x2), (4, .int x4)] dX6_tryBeliefs_95 rfl (Nat.le_of_ble_eq_true rfl) rfl ?_
          refine z_iinc F [(4, .int (x4 + (1 : Int32))), (3, .int r_7), (0, zr G x0), (1, .int x1), (2, .int x2)] dX6_tryBeliefs_96 4 rfl rfl (Nat.le_of_ble_eq_true rfl) rfl ?_
          refine z_goto F 51 dX6_tryBeliefs_99 rfl ?_
          refine z_ls [(0, zr G x0), (1, .int x1), (2, .int x2), (3, .int r_7), (4, .int (x4 + (1 : Int32)))] [2, 3, 4, 1, 0] rfl ?_
          exact ih x0 t0 x1 x2 r_7 (x4 + (1 : Int32)) v_6 h
        · replace h := zif_f hc h
          refine z_aload_n F dX6_tryBeliefs_85 rfl 0 rfl ?_
          refine z_iload_n F dX6_tryBeliefs_86 rfl 1 rfl ?_
          obtain ⟨v_8, hq87, h⟩ := zbindv_ex h
          refine z_callVv F [.int x1] [] (kX6_noteWay x.2.1 G x0 t0 x1 v_4 v_8 hq87) mI_X6_noteWay (c := 6) rfl t0 wM_X6_103 mi_X6_noteWay sl_X6_noteWay dX6_tryBeliefs_87 rfl ⟨Nat.le_of_ble_eq_true rfl, Nat.le_of_ble_eq_true rfl⟩ rfl (Nat.le_of_ble_eq_true rfl) ⟨Nat.zero_le _, Nat.zero_le _⟩ ?_
          refine z_aload_n F dX6_tryBeliefs_90 rfl 0 rfl ?_
          refine z_iload_n F dX6_tryBeliefs_91 rfl 3 rfl ?_
          obtain ⟨r_10, v_9, hq92, h⟩ := zbind_ex h
          refine z_callVi F [.int x3] [] (kX6_codeBehind x.2.1 G x0 t0 x3 v_8 r_10 v_9 hq92) mI_X6_codeBehind (c := 6) rfl t0 wM_X6_107 mi_X6_codeBehind sl_X6_codeBehind dX6_tryBeliefs_92 rfl ⟨Nat.le_of_ble_eq_true rfl, Nat.le_of_ble_eq_true rfl⟩ rfl (Nat.le_of_ble_eq_true rfl) ⟨Nat.zero_le _, Nat.zero_le _⟩ ?_
          refine z_istore_n F [(3, .int r_10), (0, zr G x0), (1, .int x1), (2, .int x2), (4, .int x4)] dX6_tryBeliefs_95 rfl (Nat.le_of_ble_eq_true rfl) rfl ?_
          refine z_iinc F [(4, .int (x4 + (1 : Int32))), (3, .int r_10), (0, zr G x0), (1, .int x1), (2, .int x2)] dX6_tryBeliefs_96 4 rfl rfl (Nat.le_of_ble_eq_true rfl) rfl ?_
          refine z_goto F 51 dX6_tryBeliefs_99 rfl ?_
          refine z_ls [(0, zr G x0), (1, .int x1), (2, .int x2), (3, .int r_10), (4, .int (x4 + (1 : Int32)))] [2, 3, 4, 1, 0] rfl ?_
          exact ih x0 t0 x1 x2 r_10 (x4 + (1 : Int32)) v_9 h

def fX6_tryBeliefs_12  : Nat → Nat → Int32 → Int32 → zV → Option zV
  | 0 => fun _ _ _ _ => none
  | n + 1 => fun x0 x1 x2 v =>
    if (Int32.ofNat (zlen (zrf x0 5))) ≤ x2 then
      zbind (fX9_get (zrf (zrf x0 0) 9) x1 v) fun r_2 v_1 =>
      fX6_tryBeliefs_51  zFU x0 x1 r_2 (0 : Int32) (0 : Int32) v_1
    else
      zix x2 (zlen (zrf x0 5)) <|
      zlet (zup v (zrf x0 5) (x2).toNatClampNeg (0 : Int32)) fun v_3 =>
      (fX6_tryBeliefs_12 n) x0 x1 (x2 + (1 : Int32)) v_3
set_option maxRecDepth 4000 in
theorem jX6_tryBeliefs_12 (x : zCx) (G : zG) (F : zF x G cX6_tryBeliefs 5 RX6 7 217) (hr : x.2.2.2.2.2.2.2.2.1.sig.returnType = (Option.none : Option FieldType)) (hk : x.2.2.2.2.2.2.2.2.1.locks = false) (w : zV)  : ∀ (n : Nat) (x0 : Nat) (t0 : zty G x0 1 6) (x1 : Int32) (x2 : Int32) (v : zV), fX6_tryBeliefs_12 n x0 x1 x2 v = some w → zJ x G 5 (zQ x G none w 0 0) 0 0 12 [(0, zr G x0), (1, .int x1), (2, .int x2)] [] v := by
  intro n
  induction n with
  | zero => intro x0 t0 x1 x2 v h; exact absurd h (by intro q; cases q)
  | succ n ih =>
    intro x0 t0 x1 x2 v h
    rw [fX6_tryBeliefs_12] at h
    dsimp only at h
    refine z_iload_n F dX6_tryBeliefs_12 rfl 2 rfl ?_
    refine z_aload_n F dX6_tryBeliefs_13 rfl 0 rfl ?_
    refine zg_6_5 F t0 wF_X6_22 dX6_tryBeliefs_14 ?_
    refine z_alen0 F (zt_f tc_6_5 t0) dX6_tryBeliefs_17 rfl ?_
    refine z_icmp_ge F 34 dX6_tryBeliefs_18 rfl (fun hc => ?_) (fun hc => ?_)
    · replace h := zif_t hc h
      refine z_aload_n F dX6_tryBeliefs_34 rfl 0 rfl ?_
      refine zg_6_0 F t0 wF_X6_25 dX6_tryBeliefs_35 ?_
      refine zg_0_9 F (zt_f tc_6_0 t0) wF_X6_100 dX6_tryBeliefs_38 ?_
      refine z_iload_n F dX6_tryBeliefs_41 rfl 1 rfl ?_
      obtain ⟨r_2, v_1, hq42, h⟩ := zbind_ex h
      refine z_callSNi F [zr G (zrf (zrf x0 0) 9), .int x1] [] (kX9_get x.2.1 G (zrf (zrf x0 0) 9) (zt_f tc_0_9 (zt_f tc_6_0 t0)) x1 v r_2 v_1 hq42) mI_X9_get wN_X6_64 ms_X9_get dX6_tryBeliefs_42 rfl ⟨Nat.le_of_ble_eq_true rfl, Nat.le_of_ble_eq_true rfl⟩ rfl (Nat.le_of_ble_eq_true rfl) ⟨Nat.zero_le _, Nat.zero_le _⟩ ?_
      refine z_istore_n F [(2, .int r_2), (0, zr G x0), (1, .int x1)] dX6_tryBeliefs_45 rfl (Nat.le_of_ble_eq_true rfl) rfl ?_
      refine z_iconst (y := (0 : Int32)) F dX6_tryBeliefs_46 rfl ?_
      refine z_istore_n F [(3, .int (0 : Int32)), (2, .int r_2), (0, zr G x0), (1, .int x1)] dX6_tryBeliefs_47 rfl (Nat.le_of_ble_eq_true rfl) rfl ?_
      refine z_iconst (y := (0 : Int32)) F dX6_tryBeliefs_48 rfl ?_
      refine z_istore (n := 0) F [(4, .int (0 : Int32)), (3, .int (0 : Int32)), (2, .int r_2), (0, zr G x0), (1, .int x1)] dX6_tryBeliefs_49 (Nat.le_of_ble_eq_true rfl) rfl ?_
      refine z_ls [(0, zr G x0), (1, .int x1), (2, .int r_2), (3, .int (0 : Int32)), (4, .int (0 : Int32))] [3, 4, 2, 1, 0] rfl ?_
      exact jX6_tryBeliefs_51 x G F hr hk w   zFU x0 t0 x1 r_2 (0 : Int32) (0 : Int32) v_1 h
    · replace h := zif_f hc h
      refine z_aload_n F dX6_tryBeliefs_21 rfl 0 rfl ?_
      refine zg_6_5 F t0 wF_X6_22 dX6_tryBeliefs_22 ?_
      refine z_iload_n F dX6_tryBeliefs_25 rfl 2 rfl ?_
      refine z_iconst (y := (0 : Int32)) F dX6_tryBeliefs_26 rfl ?_
      obtain ⟨hi27, h⟩ := zix_ex h
      refine z_iast F (zt_f tc_6_5 t0) dX6_tryBeliefs_27 hi27 ?_
      obtain ⟨v_3, ev_3, h⟩ := zlet_ex h
      refine z_heap ev_3 ?_
      refine z_iinc F [(2, .int (x2 + (1 : Int32))), (0, zr G x0), (1, .int x1)] dX6_tryBeliefs_28 2 rfl rfl (Nat.le_of_ble_eq_true rfl) rfl ?_
      refine z_goto F 12 dX6_tryBeliefs_31 rfl ?_
      refine z_ls [(0, zr G x0), (1, .int x1), (2, .int (x2 + (1 : Int32)))] [1, 2, 0] rfl ?_
      exact ih x0 t0 x1 (x2 + (1 : Int32)) v_3 h

def fX6_tryBeliefs (x0 : Nat) (x1 : Int32) (v : zV) : Option zV :=
  zlet (zup v x0 6 (0 : Int32)) fun v_1 =>
  zlet (zup v_1 x0 7 (-1 : Int32)) fun v_2 =>
  fX6_tryBeliefs_12  zFU x0 x1 (0 : Int32) v_2
set_option maxRecDepth 4000 in
theorem kX6_tryBeliefs (l : Launch) (G : zG) (x0 : Nat) (t0 : zty G x0 1 6) (x1 : Int32) (v : zV) (w : zV) (h : fX6_tryBeliefs x0 x1 v = some w) : zMet l yX6_tryBeliefs cX6_tryBeliefs 5 (Option.none : Option FieldType) 7 217 0 0 [zr G x0, .int x1] G v none w := by
  refine zM_of (own := RX6) (by decide) rfl (Nat.le_of_ble_eq_true rfl) (fun x hl F hr hk hcs => ?_)
  subst hl
  refine z_ls [(0, zr G x0), (1, .int x1)] [0, 1] rfl ?_
  unfold fX6_tryBeliefs at h
  refine z_aload_n F dX6_tryBeliefs_0 rfl 0 rfl ?_
  refine z_iconst (y := (0 : Int32)) F dX6_tryBeliefs_1 rfl ?_
  refine zp_6_6 F t0 wF_X6_94 dX6_tryBeliefs_2 ?_
  obtain ⟨v_1, ev_1, h⟩ := zlet_ex h
  refine z_heap ev_1 ?_
  refine z_aload_n F dX6_tryBeliefs_5 rfl 0 rfl ?_
  refine z_iconst (y := (-1 : Int32)) F dX6_tryBeliefs_6 rfl ?_
  refine zp_6_7 F t0 wF_X6_97 dX6_tryBeliefs_7 ?_
  obtain ⟨v_2, ev_2, h⟩ := zlet_ex h
  refine z_heap ev_2 ?_
  refine z_iconst (y := (0 : Int32)) F dX6_tryBeliefs_10 rfl ?_
  refine z_istore_n F [(2, .int (0 : Int32)), (0, zr G x0), (1, .int x1)] dX6_tryBeliefs_11 rfl (Nat.le_of_ble_eq_true rfl) rfl ?_
  refine z_ls [(0, zr G x0), (1, .int x1), (2, .int (0 : Int32))] [1, 2, 0] rfl ?_
  exact jX6_tryBeliefs_12 x G F hr hk w   zFU x0 t0 x1 (0 : Int32) v_2 h

theorem dX6_onlySide_0 : decode cX6_onlySide 0 = .ok (.aload_n 0, 1) := by decide +kernel
theorem dX6_onlySide_1 : decode cX6_onlySide 1 = .ok (.getfield 22, 3) := by decide +kernel
theorem dX6_onlySide_4 : decode cX6_onlySide 4 = .ok (.iload_n 1, 1) := by decide +kernel
theorem dX6_onlySide_5 : decode cX6_onlySide 5 = .ok (.invokestatic 64, 3) := by decide +kernel
theorem dX6_onlySide_8 : decode cX6_onlySide 8 = .ok (.tableswitch 38 1 4 #[32, 34, 38, 36], 32) := by decide +kernel
theorem dX6_onlySide_40 : decode cX6_onlySide 40 = .ok (.iconst 0, 1) := by decide +kernel
theorem dX6_onlySide_41 : decode cX6_onlySide 41 = .ok (.ireturn, 1) := by decide +kernel
theorem dX6_onlySide_42 : decode cX6_onlySide 42 = .ok (.iconst 1, 1) := by decide +kernel
theorem dX6_onlySide_43 : decode cX6_onlySide 43 = .ok (.ireturn, 1) := by decide +kernel
theorem dX6_onlySide_44 : decode cX6_onlySide 44 = .ok (.iconst 2, 1) := by decide +kernel
theorem dX6_onlySide_45 : decode cX6_onlySide 45 = .ok (.ireturn, 1) := by decide +kernel
theorem dX6_onlySide_46 : decode cX6_onlySide 46 = .ok (.iconst (-1), 1) := by decide +kernel
theorem dX6_onlySide_47 : decode cX6_onlySide 47 = .ok (.ireturn, 1) := by decide +kernel
def fX6_onlySide (x0 : Nat) (x1 : Int32) (v : zV) : Option (Int32 × zV) :=
  zbind (fX9_get (zrf x0 5) x1 v) fun r_2 v_1 =>
  if r_2 = (1 : Int32) then
    some ((0 : Int32), v_1)
  else
    if r_2 = (2 : Int32) then
      some ((1 : Int32), v_1)
    else
      if r_2 = (3 : Int32) then
        some ((-1 : Int32), v_1)
      else
        if r_2 = (4 : Int32) then
          some ((2 : Int32), v_1)
        else
          some ((-1 : Int32), v_1)
set_option maxRecDepth 4000 in
theorem kX6_onlySide (l : Launch) (G : zG) (x0 : Nat) (t0 : zty G x0 1 6) (x1 : Int32) (v : zV) (r : Int32) (w : zV) (h : fX6_onlySide x0 x1 v = some (r, w)) : zMet l yX6_onlySide cX6_onlySide 2 (Option.some FieldType.int) 2 101 0 0 [zr G x0, .int x1] G v (some (.int r)) w := by
  refine zM_of (own := RX6) (by decide) rfl (Nat.le_of_ble_eq_true rfl) (fun x hl F hr hk hcs => ?_)
  subst hl
  refine z_ls [(0, zr G x0), (1, .int x1)] [0, 1] rfl ?_
  unfold fX6_onlySide at h
  refine z_aload_n F dX6_onlySide_0 rfl 0 rfl ?_
  refine zg_6_5 F t0 wF_X6_22 dX6_onlySide_1 ?_
  refine z_iload_n F dX6_onlySide_4 rfl 1 rfl ?_
  obtain ⟨r_2, v_1, hq5, h⟩ := zbind_ex h
  refine z_callSNi F [zr G (zrf x0 5), .int x1] [] (kX9_get x.2.1 G (zrf x0 5) (zt_f tc_6_5 t0) x1 v r_2 v_1 hq5) mI_X9_get wN_X6_64 ms_X9_get dX6_onlySide_5 rfl ⟨Nat.le_of_ble_eq_true rfl, Nat.le_of_ble_eq_true rfl⟩ rfl (Nat.le_of_ble_eq_true rfl) ⟨Nat.zero_le _, Nat.zero_le _⟩ ?_
  by_cases hc : r_2 = (1 : Int32)
  · replace h := zif_t hc h
    refine z_swIn F 40 hc dX6_onlySide_8 (by decide) (by decide) rfl rfl ?_
    refine z_iconst (y := (0 : Int32)) F dX6_onlySide_40 rfl ?_
    cases h
    exact z_reti F hr hk dX6_onlySide_41
  · replace h := zif_f hc h
    have hn1 := zsw_ne hc
    by_cases hc : r_2 = (2 : Int32)
    · replace h := zif_t hc h
      refine z_swIn F 42 hc dX6_onlySide_8 (by decide) (by decide) rfl rfl ?_
      refine z_iconst (y := (1 : Int32)) F dX6_onlySide_42 rfl ?_
      cases h
      exact z_reti F hr hk dX6_onlySide_43
    · replace h := zif_f hc h
      have hn2 := zsw_ne hc
      by_cases hc : r_2 = (3 : Int32)
      · replace h := zif_t hc h
        refine z_swIn F 46 hc dX6_onlySide_8 (by decide) (by decide) rfl rfl ?_
        refine z_iconst (y := (-1 : Int32)) F dX6_onlySide_46 rfl ?_
        cases h
        exact z_reti F hr hk dX6_onlySide_47
      · replace h := zif_f hc h
        have hn3 := zsw_ne hc
        by_cases hc : r_2 = (4 : Int32)
        · replace h := zif_t hc h
          refine z_swIn F 44 hc dX6_onlySide_8 (by decide) (by decide) rfl rfl ?_
          refine z_iconst (y := (2 : Int32)) F dX6_onlySide_44 rfl ?_
          cases h
          exact z_reti F hr hk dX6_onlySide_45
        · replace h := zif_f hc h
          have hn4 := zsw_ne hc
          refine z_tableOut F 46 dX6_onlySide_8 (by have q0 : ((1 : Int32) : Int32).toInt = 1 := rfl; have q1 : ((2 : Int32) : Int32).toInt = 2 := rfl; have q2 : ((3 : Int32) : Int32).toInt = 3 := rfl; have q3 : ((4 : Int32) : Int32).toInt = 4 := rfl; omega) rfl ?_
          refine z_iconst (y := (-1 : Int32)) F dX6_onlySide_46 rfl ?_
          cases h
          exact z_reti F hr hk dX6_onlySide_47

theorem dX4_nextTaken_0 : decode cX4_nextTaken 0 = .ok (.aload_n 0, 1) := by decide +kernel
theorem dX4_nextTaken_1 : decode cX4_nextTaken 1 = .ok (.getfield 12, 3) := by decide +kernel
theorem dX4_nextTaken_4 : decode cX4_nextTaken 4 = .ok (.aload_n 0, 1) := by decide +kernel
theorem dX4_nextTaken_5 : decode cX4_nextTaken 5 = .ok (.getfield 40, 3) := by decide +kernel
theorem dX4_nextTaken_8 : decode cX4_nextTaken 8 = .ok (.invokevirtual 43, 3) := by decide +kernel
theorem dX4_nextTaken_11 : decode cX4_nextTaken 11 = .ok (.aload_n 0, 1) := by decide +kernel
theorem dX4_nextTaken_12 : decode cX4_nextTaken 12 = .ok (.getfield 36, 3) := by decide +kernel
theorem dX4_nextTaken_15 : decode cX4_nextTaken 15 = .ok (.aload_n 0, 1) := by decide +kernel
theorem dX4_nextTaken_16 : decode cX4_nextTaken 16 = .ok (.getfield 12, 3) := by decide +kernel
theorem dX4_nextTaken_19 : decode cX4_nextTaken 19 = .ok (.invokevirtual 47, 3) := by decide +kernel
theorem dX4_nextTaken_22 : decode cX4_nextTaken 22 = .ok (.ireturn, 1) := by decide +kernel
def fX4_nextTaken (x0 : Nat) (v : zV) : Option (Int32 × zV) :=
  zbindv (fX7_copy (zrf x0 3) (zrf x0 2) v) fun v_1 =>
  zbind (fX2_pass (zrf x0 1) (zrf x0 3) v_1) fun r_3 v_2 =>
  some (r_3, v_2)
set_option maxRecDepth 4000 in
theorem kX4_nextTaken (l : Launch) (G : zG) (x0 : Nat) (t0 : zty G x0 1 4) (v : zV) (r : Int32) (w : zV) (h : fX4_nextTaken x0 v = some (r, w)) : zMet l yX4_nextTaken cX4_nextTaken 1 (Option.some FieldType.int) 7 214 0 0 [zr G x0] G v (some (.int r)) w := by
  refine zM_of (own := RX4) (by decide) rfl (Nat.le_of_ble_eq_true rfl) (fun x hl F hr hk hcs => ?_)
  subst hl
  refine z_ls [(0, zr G x0)] [0] rfl ?_
  unfold fX4_nextTaken at h
  refine z_aload_n F dX4_nextTaken_0 rfl 0 rfl ?_
  refine zg_4_3 F t0 wF_X4_12 dX4_nextTaken_1 ?_
  refine z_aload_n F dX4_nextTaken_4 rfl 0 rfl ?_
  refine zg_4_2 F t0 wF_X4_40 dX4_nextTaken_5 ?_
  obtain ⟨v_1, hq8, h⟩ := zbindv_ex h
  refine z_callVv F [zr G (zrf x0 2)] [] (kX7_copy x.2.1 G (zrf x0 3) (zt_f tc_4_3 t0) (zrf x0 2) (zt_f tc_4_2 t0) v v_1 hq8) mI_X7_copy (c := 7) rfl (zt_f tc_4_3 t0) wM_X4_43 mi_X7_copy sl_X7_copy dX4_nextTaken_8 rfl ⟨Nat.le_of_ble_eq_true rfl, Nat.le_of_ble_eq_true rfl⟩ rfl (Nat.le_of_ble_eq_true rfl) ⟨Nat.zero_le _, Nat.zero_le _⟩ ?_
  refine z_aload_n F dX4_nextTaken_11 rfl 0 rfl ?_
  refine zg_4_1 F t0 wF_X4_36 dX4_nextTaken_12 ?_
  refine z_aload_n F dX4_nextTaken_15 rfl 0 rfl ?_
  refine zg_4_3 F t0 wF_X4_12 dX4_nextTaken_16 ?_
  obtain ⟨r_3, v_2, hq19, h⟩ := zbind_ex h
  refine z_callVi F [zr G (zrf x0 3)] [] (kX2_pass x.2.1 G (zrf x0 1) (zt_f tc_4_1 t0) (zrf x0 3) (zt_f tc_4_3 t0) v_1 r_3 v_2 hq19) mI_X2_pass (c := 2) rfl (zt_f tc_4_1 t0) wM_X4_47 mi_X2_pass sl_X2_pass dX4_nextTaken_19 rfl ⟨Nat.le_of_ble_eq_true rfl, Nat.le_of_ble_eq_true rfl⟩ rfl (Nat.le_of_ble_eq_true rfl) ⟨Nat.zero_le _, Nat.zero_le _⟩ ?_
  cases h
  exact z_reti F hr hk dX4_nextTaken_22

theorem dX4_behind_0 : decode cX4_behind 0 = .ok (.aload_n 0, 1) := by decide +kernel
theorem dX4_behind_1 : decode cX4_behind 1 = .ok (.getfield 12, 3) := by decide +kernel
theorem dX4_behind_4 : decode cX4_behind 4 = .ok (.aload_n 0, 1) := by decide +kernel
theorem dX4_behind_5 : decode cX4_behind 5 = .ok (.getfield 40, 3) := by decide +kernel
theorem dX4_behind_8 : decode cX4_behind 8 = .ok (.invokevirtual 43, 3) := by decide +kernel
theorem dX4_behind_11 : decode cX4_behind 11 = .ok (.iconst 0, 1) := by decide +kernel
theorem dX4_behind_12 : decode cX4_behind 12 = .ok (.istore_n 3, 1) := by decide +kernel
theorem dX4_behind_13 : decode cX4_behind 13 = .ok (.iload_n 3, 1) := by decide +kernel
theorem dX4_behind_14 : decode cX4_behind 14 = .ok (.iload_n 1, 1) := by decide +kernel
theorem dX4_behind_15 : decode cX4_behind 15 = .ok (.if_icmp .ge 21, 3) := by decide +kernel
theorem dX4_behind_18 : decode cX4_behind 18 = .ok (.aload_n 0, 1) := by decide +kernel
theorem dX4_behind_19 : decode cX4_behind 19 = .ok (.getfield 36, 3) := by decide +kernel
theorem dX4_behind_22 : decode cX4_behind 22 = .ok (.aload_n 0, 1) := by decide +kernel
theorem dX4_behind_23 : decode cX4_behind 23 = .ok (.getfield 12, 3) := by decide +kernel
theorem dX4_behind_26 : decode cX4_behind 26 = .ok (.invokevirtual 47, 3) := by decide +kernel
theorem dX4_behind_29 : decode cX4_behind 29 = .ok (.pop, 1) := by decide +kernel
theorem dX4_behind_30 : decode cX4_behind 30 = .ok (.iinc 3 1, 3) := by decide +kernel
theorem dX4_behind_33 : decode cX4_behind 33 = .ok (.goto (-20), 3) := by decide +kernel
theorem dX4_behind_36 : decode cX4_behind 36 = .ok (.iload_n 2, 1) := by decide +kernel
theorem dX4_behind_37 : decode cX4_behind 37 = .ok (.lookupswitch 43 #[(0, 27), (1, 35)], 27) := by decide +kernel
theorem dX4_behind_64 : decode cX4_behind 64 = .ok (.aload_n 0, 1) := by decide +kernel
theorem dX4_behind_65 : decode cX4_behind 65 = .ok (.getfield 12, 3) := by decide +kernel
theorem dX4_behind_68 : decode cX4_behind 68 = .ok (.invokevirtual 53, 3) := by decide +kernel
theorem dX4_behind_71 : decode cX4_behind 71 = .ok (.ireturn, 1) := by decide +kernel
theorem dX4_behind_72 : decode cX4_behind 72 = .ok (.aload_n 0, 1) := by decide +kernel
theorem dX4_behind_73 : decode cX4_behind 73 = .ok (.getfield 12, 3) := by decide +kernel
theorem dX4_behind_76 : decode cX4_behind 76 = .ok (.getfield 57, 3) := by decide +kernel
theorem dX4_behind_79 : decode cX4_behind 79 = .ok (.ireturn, 1) := by decide +kernel
theorem dX4_behind_80 : decode cX4_behind 80 = .ok (.aload_n 0, 1) := by decide +kernel
theorem dX4_behind_81 : decode cX4_behind 81 = .ok (.getfield 12, 3) := by decide +kernel
theorem dX4_behind_84 : decode cX4_behind 84 = .ok (.getfield 61, 3) := by decide +kernel
theorem dX4_behind_87 : decode cX4_behind 87 = .ok (.aload_n 0, 1) := by decide +kernel
theorem dX4_behind_88 : decode cX4_behind 88 = .ok (.getfield 40, 3) := by decide +kernel
theorem dX4_behind_91 : decode cX4_behind 91 = .ok (.getfield 61, 3) := by decide +kernel
theorem dX4_behind_94 : decode cX4_behind 94 = .ok (.isub, 1) := by decide +kernel
theorem dX4_behind_95 : decode cX4_behind 95 = .ok (.ireturn, 1) := by decide +kernel
def fX4_behind_36  (x0 : Nat) (x2 : Int32) (v : zV) : Option (Int32 × zV) :=
  if x2 = (0 : Int32) then
    zbind (fX7_last (zrf x0 3) v) fun r_2 v_1 =>
    some (r_2, v_1)
  else
    if x2 = (1 : Int32) then
      some (v (zrf x0 3) 1, v)
    else
      some ((v (zrf x0 3) 2) - (v (zrf x0 2) 2), v)
set_option maxRecDepth 4000 in
theorem jX4_behind_36 (x : zCx) (G : zG) (F : zF x G cX4_behind 4 RX4 7 214) (hr : x.2.2.2.2.2.2.2.2.1.sig.returnType = (Option.some FieldType.int)) (hk : x.2.2.2.2.2.2.2.2.1.locks = false) (r : Int32) (w : zV)  : ∀ (x0 : Nat) (t0 : zty G x0 1 4) (x2 : Int32) (v : zV), fX4_behind_36 x0 x2 v = some (r, w) → zJ x G 4 (zQ x G (some (.int r)) w 0 0) 0 0 36 [(0, zr G x0), (2, .int x2)] [] v := by
  intro x0 t0 x2 v h
  unfold fX4_behind_36 at h
  refine z_iload_n F dX4_behind_36 rfl 1 rfl ?_
  by_cases hc : x2 = (0 : Int32)
  · replace h := zif_t hc h
    refine z_lkIn F 64 hc dX4_behind_37 (by decide) rfl rfl ?_
    refine z_aload_n F dX4_behind_64 rfl 0 rfl ?_
    refine zg_4_3 F t0 wF_X4_12 dX4_behind_65 ?_
    obtain ⟨r_2, v_1, hq68, h⟩ := zbind_ex h
    refine z_callVi F [] [] (kX7_last x.2.1 G (zrf x0 3) (zt_f tc_4_3 t0) v r_2 v_1 hq68) mI_X7_last (c := 7) rfl (zt_f tc_4_3 t0) wM_X4_53 mi_X7_last sl_X7_last dX4_behind_68 rfl ⟨Nat.le_of_ble_eq_true rfl, Nat.le_of_ble_eq_true rfl⟩ rfl (Nat.le_of_ble_eq_true rfl) ⟨Nat.zero_le _, Nat.zero_le _⟩ ?_
    cases h
    exact z_reti F hr hk dX4_behind_71
  · replace h := zif_f hc h
    have hn0 := zsw_ne hc
    by_cases hc : x2 = (1 : Int32)
    · replace h := zif_t hc h
      refine z_lkIn F 72 hc dX4_behind_37 (by decide) rfl rfl ?_
      refine z_aload_n F dX4_behind_72 rfl 0 rfl ?_
      refine zg_4_3 F t0 wF_X4_12 dX4_behind_73 ?_
      refine zg_7_1 F (zt_f tc_4_3 t0) wF_X4_57 dX4_behind_76 ?_
      cases h
      exact z_reti F hr hk dX4_behind_79
    · replace h := zif_f hc h
      have hn1 := zsw_ne hc
      refine z_lookup F 80 dX4_behind_37 (by decide) (zlk_2 hn0 hn1) rfl ?_
      refine z_aload_n F dX4_behind_80 rfl 0 rfl ?_
      refine zg_4_3 F t0 wF_X4_12 dX4_behind_81 ?_
      refine zg_7_2 F (zt_f tc_4_3 t0) wF_X4_61 dX4_behind_84 ?_
      refine z_aload_n F dX4_behind_87 rfl 0 rfl ?_
      refine zg_4_2 F t0 wF_X4_40 dX4_behind_88 ?_
      refine zg_7_2 F (zt_f tc_4_2 t0) wF_X4_61 dX4_behind_91 ?_
      refine z_isub F dX4_behind_94 ?_
      cases h
      exact z_reti F hr hk dX4_behind_95

def fX4_behind_13  : Nat → Nat → Int32 → Int32 → Int32 → zV → Option (Int32 × zV)
  | 0 => fun _ _ _ _ _ => none
  | n + 1 => fun x0 x1 x2 x3 v =>
    if x1 ≤ x3 then
      fX4_behind_36  x0 x2 v
    else
      zbind (fX2_pass (zrf x0 1) (zrf x0 3) v) fun r_2 v_1 =>
      (fX4_behind_13 n) x0 x1 x2 (x3 + (1 : Int32)) v_1
set_option maxRecDepth 4000 in
theorem jX4_behind_13 (x : zCx) (G : zG) (F : zF x G cX4_behind 4 RX4 7 214) (hr : x.2.2.2.2.2.2.2.2.1.sig.returnType = (Option.some FieldType.int)) (hk : x.2.2.2.2.2.2.2.2.1.locks = false) (r : Int32) (w : zV)  : ∀ (n : Nat) (x0 : Nat) (t0 : zty G x0 1 4) (x1 : Int32) (x2 : Int32) (x3 : Int32) (v : zV), fX4_behind_13 n x0 x1 x2 x3 v = some (r, w) → zJ x G 4 (zQ x G (some (.int r)) w 0 0) 0 0 13 [(0, zr G x0), (1, .int x1), (2, .int x2), (3, .int x3)] [] v := by
  intro n
  induction n with
  | zero => intro x0 t0 x1 x2 x3 v h; exact absurd h (by intro q; cases q)
  | succ n ih =>
    intro x0 t0 x1 x2 x3 v h
    rw [fX4_behind_13] at h
    dsimp only at h
    refine z_iload_n F dX4_behind_13 rfl 3 rfl ?_
    refine z_iload_n F dX4_behind_14 rfl 1 rfl ?_
    refine z_icmp_ge F 36 dX4_behind_15 rfl (fun hc => ?_) (fun hc => ?_)
    · replace h := zif_t hc h
      refine z_ls [(0, zr G x0), (2, .int x2)] [0, 2] rfl ?_
      exact jX4_behind_36 x G F hr hk r w   x0 t0 x2 v h
    · replace h := zif_f hc h
      refine z_aload_n F dX4_behind_18 rfl 0 rfl ?_
      refine zg_4_1 F t0 wF_X4_36 dX4_behind_19 ?_
      refine z_aload_n F dX4_behind_22 rfl 0 rfl ?_
      refine zg_4_3 F t0 wF_X4_12 dX4_behind_23 ?_
      obtain ⟨r_2, v_1, hq26, h⟩ := zbind_ex h
      refine z_callVi F [zr G (zrf x0 3)] [] (kX2_pass x.2.1 G (zrf x0 1) (zt_f tc_4_1 t0) (zrf x0 3) (zt_f tc_4_3 t0) v r_2 v_1 hq26) mI_X2_pass (c := 2) rfl (zt_f tc_4_1 t0) wM_X4_47 mi_X2_pass sl_X2_pass dX4_behind_26 rfl ⟨Nat.le_of_ble_eq_true rfl, Nat.le_of_ble_eq_true rfl⟩ rfl (Nat.le_of_ble_eq_true rfl) ⟨Nat.zero_le _, Nat.zero_le _⟩ ?_
      refine z_pop F dX4_behind_29 rfl ?_
      refine z_iinc F [(3, .int (x3 + (1 : Int32))), (0, zr G x0), (1, .int x1), (2, .int x2)] dX4_behind_30 3 rfl rfl (Nat.le_of_ble_eq_true rfl) rfl ?_
      refine z_goto F 13 dX4_behind_33 rfl ?_
      refine z_ls [(0, zr G x0), (1, .int x1), (2, .int x2), (3, .int (x3 + (1 : Int32)))] [1, 2, 3, 0] rfl ?_
      exact ih x0 t0 x1 x2 (x3 + (1 : Int32)) v_1 h

def fX4_behind (x0 : Nat) (x1 : Int32) (x2 : Int32) (v : zV) : Option (Int32 × zV) :=
  zbindv (fX7_copy (zrf x0 3) (zrf x0 2) v) fun v_1 =>
  fX4_behind_13  zFU x0 x1 x2 (0 : Int32) v_1
set_option maxRecDepth 4000 in
theorem kX4_behind (l : Launch) (G : zG) (x0 : Nat) (t0 : zty G x0 1 4) (x1 : Int32) (x2 : Int32) (v : zV) (r : Int32) (w : zV) (h : fX4_behind x0 x1 x2 v = some (r, w)) : zMet l yX4_behind cX4_behind 4 (Option.some FieldType.int) 7 214 0 0 [zr G x0, .int x1, .int x2] G v (some (.int r)) w := by
  refine zM_of (own := RX4) (by decide) rfl (Nat.le_of_ble_eq_true rfl) (fun x hl F hr hk hcs => ?_)
  subst hl
  refine z_ls [(0, zr G x0), (1, .int x1), (2, .int x2)] [0, 1, 2] rfl ?_
  unfold fX4_behind at h
  refine z_aload_n F dX4_behind_0 rfl 0 rfl ?_
  refine zg_4_3 F t0 wF_X4_12 dX4_behind_1 ?_
  refine z_aload_n F dX4_behind_4 rfl 0 rfl ?_
  refine zg_4_2 F t0 wF_X4_40 dX4_behind_5 ?_
  obtain ⟨v_1, hq8, h⟩ := zbindv_ex h
  refine z_callVv F [zr G (zrf x0 2)] [] (kX7_copy x.2.1 G (zrf x0 3) (zt_f tc_4_3 t0) (zrf x0 2) (zt_f tc_4_2 t0) v v_1 hq8) mI_X7_copy (c := 7) rfl (zt_f tc_4_3 t0) wM_X4_43 mi_X7_copy sl_X7_copy dX4_behind_8 rfl ⟨Nat.le_of_ble_eq_true rfl, Nat.le_of_ble_eq_true rfl⟩ rfl (Nat.le_of_ble_eq_true rfl) ⟨Nat.zero_le _, Nat.zero_le _⟩ ?_
  refine z_iconst (y := (0 : Int32)) F dX4_behind_11 rfl ?_
  refine z_istore_n F [(3, .int (0 : Int32)), (0, zr G x0), (1, .int x1), (2, .int x2)] dX4_behind_12 rfl (Nat.le_of_ble_eq_true rfl) rfl ?_
  refine z_ls [(0, zr G x0), (1, .int x1), (2, .int x2), (3, .int (0 : Int32))] [1, 2, 3, 0] rfl ?_
  exact jX4_behind_13 x G F hr hk r w   zFU x0 t0 x1 x2 (0 : Int32) v_1 h

theorem dX4_yearOfEntry_0 : decode cX4_yearOfEntry 0 = .ok (.aload_n 0, 1) := by decide +kernel
theorem dX4_yearOfEntry_1 : decode cX4_yearOfEntry 1 = .ok (.getfield 12, 3) := by decide +kernel
theorem dX4_yearOfEntry_4 : decode cX4_yearOfEntry 4 = .ok (.aload_n 0, 1) := by decide +kernel
theorem dX4_yearOfEntry_5 : decode cX4_yearOfEntry 5 = .ok (.getfield 40, 3) := by decide +kernel
theorem dX4_yearOfEntry_8 : decode cX4_yearOfEntry 8 = .ok (.invokevirtual 43, 3) := by decide +kernel
theorem dX4_yearOfEntry_11 : decode cX4_yearOfEntry 11 = .ok (.iconst 0, 1) := by decide +kernel
theorem dX4_yearOfEntry_12 : decode cX4_yearOfEntry 12 = .ok (.istore_n 2, 1) := by decide +kernel
theorem dX4_yearOfEntry_13 : decode cX4_yearOfEntry 13 = .ok (.iload_n 2, 1) := by decide +kernel
theorem dX4_yearOfEntry_14 : decode cX4_yearOfEntry 14 = .ok (.bipush 60, 2) := by decide +kernel
theorem dX4_yearOfEntry_16 : decode cX4_yearOfEntry 16 = .ok (.if_icmp .ge 34, 3) := by decide +kernel
theorem dX4_yearOfEntry_19 : decode cX4_yearOfEntry 19 = .ok (.aload_n 0, 1) := by decide +kernel
theorem dX4_yearOfEntry_20 : decode cX4_yearOfEntry 20 = .ok (.getfield 36, 3) := by decide +kernel
theorem dX4_yearOfEntry_23 : decode cX4_yearOfEntry 23 = .ok (.aload_n 0, 1) := by decide +kernel
theorem dX4_yearOfEntry_24 : decode cX4_yearOfEntry 24 = .ok (.getfield 12, 3) := by decide +kernel
theorem dX4_yearOfEntry_27 : decode cX4_yearOfEntry 27 = .ok (.invokevirtual 47, 3) := by decide +kernel
theorem dX4_yearOfEntry_30 : decode cX4_yearOfEntry 30 = .ok (.iload_n 1, 1) := by decide +kernel
theorem dX4_yearOfEntry_31 : decode cX4_yearOfEntry 31 = .ok (.if_icmp .ne 13, 3) := by decide +kernel
theorem dX4_yearOfEntry_34 : decode cX4_yearOfEntry 34 = .ok (.aload_n 0, 1) := by decide +kernel
theorem dX4_yearOfEntry_35 : decode cX4_yearOfEntry 35 = .ok (.getfield 12, 3) := by decide +kernel
theorem dX4_yearOfEntry_38 : decode cX4_yearOfEntry 38 = .ok (.getfield 64, 3) := by decide +kernel
theorem dX4_yearOfEntry_41 : decode cX4_yearOfEntry 41 = .ok (.iconst 1, 1) := by decide +kernel
theorem dX4_yearOfEntry_42 : decode cX4_yearOfEntry 42 = .ok (.isub, 1) := by decide +kernel
theorem dX4_yearOfEntry_43 : decode cX4_yearOfEntry 43 = .ok (.ireturn, 1) := by decide +kernel
theorem dX4_yearOfEntry_44 : decode cX4_yearOfEntry 44 = .ok (.iinc 2 1, 3) := by decide +kernel
theorem dX4_yearOfEntry_47 : decode cX4_yearOfEntry 47 = .ok (.goto (-34), 3) := by decide +kernel
theorem dX4_yearOfEntry_50 : decode cX4_yearOfEntry 50 = .ok (.iconst (-1), 1) := by decide +kernel
theorem dX4_yearOfEntry_51 : decode cX4_yearOfEntry 51 = .ok (.ireturn, 1) := by decide +kernel
def fX4_yearOfEntry_13  : Nat → Nat → Int32 → Int32 → zV → Option (Int32 × zV)
  | 0 => fun _ _ _ _ => none
  | n + 1 => fun x0 x1 x2 v =>
    if (60 : Int32) ≤ x2 then
      some ((-1 : Int32), v)
    else
      zbind (fX2_pass (zrf x0 1) (zrf x0 3) v) fun r_2 v_1 =>
      if r_2 = x1 then
        some ((v_1 (zrf x0 3) 0) - (1 : Int32), v_1)
      else
        (fX4_yearOfEntry_13 n) x0 x1 (x2 + (1 : Int32)) v_1
set_option maxRecDepth 4000 in
theorem jX4_yearOfEntry_13 (x : zCx) (G : zG) (F : zF x G cX4_yearOfEntry 3 RX4 7 214) (hr : x.2.2.2.2.2.2.2.2.1.sig.returnType = (Option.some FieldType.int)) (hk : x.2.2.2.2.2.2.2.2.1.locks = false) (r : Int32) (w : zV)  : ∀ (n : Nat) (x0 : Nat) (t0 : zty G x0 1 4) (x1 : Int32) (x2 : Int32) (v : zV), fX4_yearOfEntry_13 n x0 x1 x2 v = some (r, w) → zJ x G 3 (zQ x G (some (.int r)) w 0 0) 0 0 13 [(0, zr G x0), (1, .int x1), (2, .int x2)] [] v := by
  intro n
  induction n with
  | zero => intro x0 t0 x1 x2 v h; exact absurd h (by intro q; cases q)
  | succ n ih =>
    intro x0 t0 x1 x2 v h
    rw [fX4_yearOfEntry_13] at h
    dsimp only at h
    refine z_iload_n F dX4_yearOfEntry_13 rfl 2 rfl ?_
    refine z_bipush (y := (60 : Int32)) F dX4_yearOfEntry_14 rfl ?_
    refine z_icmp_ge F 50 dX4_yearOfEntry_16 rfl (fun hc => ?_) (fun hc => ?_)
    · replace h := zif_t hc h
      refine z_iconst (y := (-1 : Int32)) F dX4_yearOfEntry_50 rfl ?_
      cases h
      exact z_reti F hr hk dX4_yearOfEntry_51
    · replace h := zif_f hc h
      refine z_aload_n F dX4_yearOfEntry_19 rfl 0 rfl ?_
      refine zg_4_1 F t0 wF_X4_36 dX4_yearOfEntry_20 ?_
      refine z_aload_n F dX4_yearOfEntry_23 rfl 0 rfl ?_
      refine zg_4_3 F t0 wF_X4_12 dX4_yearOfEntry_24 ?_
      obtain ⟨r_2, v_1, hq27, h⟩ := zbind_ex h
      refine z_callVi F [zr G (zrf x0 3)] [] (kX2_pass x.2.1 G (zrf x0 1) (zt_f tc_4_1 t0) (zrf x0 3) (zt_f tc_4_3 t0) v r_2 v_1 hq27) mI_X2_pass (c := 2) rfl (zt_f tc_4_1 t0) wM_X4_47 mi_X2_pass sl_X2_pass dX4_yearOfEntry_27 rfl ⟨Nat.le_of_ble_eq_true rfl, Nat.le_of_ble_eq_true rfl⟩ rfl (Nat.le_of_ble_eq_true rfl) ⟨Nat.zero_le _, Nat.zero_le _⟩ ?_
      refine z_iload_n F dX4_yearOfEntry_30 rfl 1 rfl ?_
      refine z_icmp_ne F 44 dX4_yearOfEntry_31 rfl (fun hc => ?_) (fun hc => ?_)
      · replace h := zif_f hc h
        refine z_iinc F [(2, .int (x2 + (1 : Int32))), (0, zr G x0), (1, .int x1)] dX4_yearOfEntry_44 2 rfl rfl (Nat.le_of_ble_eq_true rfl) rfl ?_
        refine z_goto F 13 dX4_yearOfEntry_47 rfl ?_
        refine z_ls [(0, zr G x0), (1, .int x1), (2, .int (x2 + (1 : Int32)))] [1, 2, 0] rfl ?_
        exact ih x0 t0 x1 (x2 + (1 : Int32)) v_1 h
      · replace h := zif_t hc h
        refine z_aload_n F dX4_yearOfEntry_34 rfl 0 rfl ?_
        refine zg_4_3 F t0 wF_X4_12 dX4_yearOfEntry_35 ?_
        refine zg_7_0 F (zt_f tc_4_3 t0) wF_X4_64 dX4_yearOfEntry_38 ?_
        refine z_iconst (y := (1 : Int32)) F dX4_yearOfEntry_41 rfl ?_
        refine z_isub F dX4_yearOfEntry_42 ?_
        cases h
        exact z_reti F hr hk dX4_yearOfEntry_43

def fX4_yearOfEntry (x0 : Nat) (x1 : Int32) (v : zV) : Option (Int32 × zV) :=
  zbindv (fX7_copy (zrf x0 3) (zrf x0 2) v) fun v_1 =>
  fX4_yearOfEntry_13  zFU x0 x1 (0 : Int32) v_1
set_option maxRecDepth 4000 in
theorem kX4_yearOfEntry (l : Launch) (G : zG) (x0 : Nat) (t0 : zty G x0 1 4) (x1 : Int32) (v : zV) (r : Int32) (w : zV) (h : fX4_yearOfEntry x0 x1 v = some (r, w)) : zMet l yX4_yearOfEntry cX4_yearOfEntry 3 (Option.some FieldType.int) 7 214 0 0 [zr G x0, .int x1] G v (some (.int r)) w := by
  refine zM_of (own := RX4) (by decide) rfl (Nat.le_of_ble_eq_true rfl) (fun x hl F hr hk hcs => ?_)
  subst hl
  refine z_ls [(0, zr G x0), (1, .int x1)] [0, 1] rfl ?_
  unfold fX4_yearOfEntry at h
  refine z_aload_n F dX4_yearOfEntry_0 rfl 0 rfl ?_
  refine zg_4_3 F t0 wF_X4_12 dX4_yearOfEntry_1 ?_
  refine z_aload_n F dX4_yearOfEntry_4 rfl 0 rfl ?_
  refine zg_4_2 F t0 wF_X4_40 dX4_yearOfEntry_5 ?_
  obtain ⟨v_1, hq8, h⟩ := zbindv_ex h
  refine z_callVv F [zr G (zrf x0 2)] [] (kX7_copy x.2.1 G (zrf x0 3) (zt_f tc_4_3 t0) (zrf x0 2) (zt_f tc_4_2 t0) v v_1 hq8) mI_X7_copy (c := 7) rfl (zt_f tc_4_3 t0) wM_X4_43 mi_X7_copy sl_X7_copy dX4_yearOfEntry_8 rfl ⟨Nat.le_of_ble_eq_true rfl, Nat.le_of_ble_eq_true rfl⟩ rfl (Nat.le_of_ble_eq_true rfl) ⟨Nat.zero_le _, Nat.zero_le _⟩ ?_
  refine z_iconst (y := (0 : Int32)) F dX4_yearOfEntry_11 rfl ?_
  refine z_istore_n F [(2, .int (0 : Int32)), (0, zr G x0), (1, .int x1)] dX4_yearOfEntry_12 rfl (Nat.le_of_ble_eq_true rfl) rfl ?_
  refine z_ls [(0, zr G x0), (1, .int x1), (2, .int (0 : Int32))] [1, 2, 0] rfl ?_
  exact jX4_yearOfEntry_13 x G F hr hk r w   zFU x0 t0 x1 (0 : Int32) v_1 h

theorem dX4_yearsLeft_0 : decode cX4_yearsLeft 0 = .ok (.aload_n 0, 1) := by decide +kernel
theorem dX4_yearsLeft_1 : decode cX4_yearsLeft 1 = .ok (.getfield 12, 3) := by decide +kernel
theorem dX4_yearsLeft_4 : decode cX4_yearsLeft 4 = .ok (.aload_n 0, 1) := by decide +kernel
theorem dX4_yearsLeft_5 : decode cX4_yearsLeft 5 = .ok (.getfield 40, 3) := by decide +kernel
theorem dX4_yearsLeft_8 : decode cX4_yearsLeft 8 = .ok (.invokevirtual 43, 3) := by decide +kernel
theorem dX4_yearsLeft_11 : decode cX4_yearsLeft 11 = .ok (.iconst 0, 1) := by decide +kernel
theorem dX4_yearsLeft_12 : decode cX4_yearsLeft 12 = .ok (.istore_n 2, 1) := by decide +kernel
theorem dX4_yearsLeft_13 : decode cX4_yearsLeft 13 = .ok (.iload_n 2, 1) := by decide +kernel
theorem dX4_yearsLeft_14 : decode cX4_yearsLeft 14 = .ok (.bipush 60, 2) := by decide +kernel
theorem dX4_yearsLeft_16 : decode cX4_yearsLeft 16 = .ok (.if_icmp .gt 38, 3) := by decide +kernel
theorem dX4_yearsLeft_19 : decode cX4_yearsLeft 19 = .ok (.aload_n 0, 1) := by decide +kernel
theorem dX4_yearsLeft_20 : decode cX4_yearsLeft 20 = .ok (.getfield 12, 3) := by decide +kernel
theorem dX4_yearsLeft_23 : decode cX4_yearsLeft 23 = .ok (.getfield 67, 3) := by decide +kernel
theorem dX4_yearsLeft_26 : decode cX4_yearsLeft 26 = .ok (.iload_n 1, 1) := by decide +kernel
theorem dX4_yearsLeft_27 : decode cX4_yearsLeft 27 = .ok (.invokestatic 70, 3) := by decide +kernel
theorem dX4_yearsLeft_30 : decode cX4_yearsLeft 30 = .ok (.iconst 1, 1) := by decide +kernel
theorem dX4_yearsLeft_31 : decode cX4_yearsLeft 31 = .ok (.if_icmp .eq 5, 3) := by decide +kernel
theorem dX4_yearsLeft_34 : decode cX4_yearsLeft 34 = .ok (.iload_n 2, 1) := by decide +kernel
theorem dX4_yearsLeft_35 : decode cX4_yearsLeft 35 = .ok (.ireturn, 1) := by decide +kernel
theorem dX4_yearsLeft_36 : decode cX4_yearsLeft 36 = .ok (.aload_n 0, 1) := by decide +kernel
theorem dX4_yearsLeft_37 : decode cX4_yearsLeft 37 = .ok (.getfield 36, 3) := by decide +kernel
theorem dX4_yearsLeft_40 : decode cX4_yearsLeft 40 = .ok (.aload_n 0, 1) := by decide +kernel
theorem dX4_yearsLeft_41 : decode cX4_yearsLeft 41 = .ok (.getfield 12, 3) := by decide +kernel
theorem dX4_yearsLeft_44 : decode cX4_yearsLeft 44 = .ok (.invokevirtual 47, 3) := by decide +kernel
theorem dX4_yearsLeft_47 : decode cX4_yearsLeft 47 = .ok (.pop, 1) := by decide +kernel
theorem dX4_yearsLeft_48 : decode cX4_yearsLeft 48 = .ok (.iinc 2 1, 3) := by decide +kernel
theorem dX4_yearsLeft_51 : decode cX4_yearsLeft 51 = .ok (.goto (-38), 3) := by decide +kernel
theorem dX4_yearsLeft_54 : decode cX4_yearsLeft 54 = .ok (.iconst (-1), 1) := by decide +kernel
theorem dX4_yearsLeft_55 : decode cX4_yearsLeft 55 = .ok (.ireturn, 1) := by decide +kernel
def fX4_yearsLeft_13  : Nat → Nat → Int32 → Int32 → zV → Option (Int32 × zV)
  | 0 => fun _ _ _ _ => none
  | n + 1 => fun x0 x1 x2 v =>
    if (60 : Int32) < x2 then
      some ((-1 : Int32), v)
    else
      zbind (fX9_get (zrf (zrf x0 3) 9) x1 v) fun r_2 v_1 =>
      if r_2 = (1 : Int32) then
        zbind (fX2_pass (zrf x0 1) (zrf x0 3) v_1) fun r_4 v_3 =>
        (fX4_yearsLeft_13 n) x0 x1 (x2 + (1 : Int32)) v_3
      else
        some (x2, v_1)
set_option maxRecDepth 4000 in
theorem jX4_yearsLeft_13 (x : zCx) (G : zG) (F : zF x G cX4_yearsLeft 3 RX4 7 214) (hr : x.2.2.2.2.2.2.2.2.1.sig.returnType = (Option.some FieldType.int)) (hk : x.2.2.2.2.2.2.2.2.1.locks = false) (r : Int32) (w : zV)  : ∀ (n : Nat) (x0 : Nat) (t0 : zty G x0 1 4) (x1 : Int32) (x2 : Int32) (v : zV), fX4_yearsLeft_13 n x0 x1 x2 v = some (r, w) → zJ x G 3 (zQ x G (some (.int r)) w 0 0) 0 0 13 [(0, zr G x0), (1, .int x1), (2, .int x2)] [] v := by
  intro n
  induction n with
  | zero => intro x0 t0 x1 x2 v h; exact absurd h (by intro q; cases q)
  | succ n ih =>
    intro x0 t0 x1 x2 v h
    rw [fX4_yearsLeft_13] at h
    dsimp only at h
    refine z_iload_n F dX4_yearsLeft_13 rfl 2 rfl ?_
    refine z_bipush (y := (60 : Int32)) F dX4_yearsLeft_14 rfl ?_
    refine z_icmp_gt F 54 dX4_yearsLeft_16 rfl (fun hc => ?_) (fun hc => ?_)
    · replace h := zif_t hc h
      refine z_iconst (y := (-1 : Int32)) F dX4_yearsLeft_54 rfl ?_
      cases h
      exact z_reti F hr hk dX4_yearsLeft_55
    · replace h := zif_f hc h
      refine z_aload_n F dX4_yearsLeft_19 rfl 0 rfl ?_
      refine zg_4_3 F t0 wF_X4_12 dX4_yearsLeft_20 ?_
      refine zg_7_9 F (zt_f tc_4_3 t0) wF_X4_67 dX4_yearsLeft_23 ?_
      refine z_iload_n F dX4_yearsLeft_26 rfl 1 rfl ?_
      obtain ⟨r_2, v_1, hq27, h⟩ := zbind_ex h
      refine z_callSNi F [zr G (zrf (zrf x0 3) 9), .int x1] [] (kX9_get x.2.1 G (zrf (zrf x0 3) 9) (zt_f tc_7_9 (zt_f tc_4_3 t0)) x1 v r_2 v_1 hq27) mI_X9_get wN_X4_70 ms_X9_get dX4_yearsLeft_27 rfl ⟨Nat.le_of_ble_eq_true rfl, Nat.le_of_ble_eq_true rfl⟩ rfl (Nat.le_of_ble_eq_true rfl) ⟨Nat.zero_le _, Nat.zero_le _⟩ ?_
      refine z_iconst (y := (1 : Int32)) F dX4_yearsLeft_30 rfl ?_
      refine z_icmp_eq F 36 dX4_yearsLeft_31 rfl (fun hc => ?_) (fun hc => ?_)
      · replace h := zif_t hc h
        refine z_aload_n F dX4_yearsLeft_36 rfl 0 rfl ?_
        refine zg_4_1 F t0 wF_X4_36 dX4_yearsLeft_37 ?_
        refine z_aload_n F dX4_yearsLeft_40 rfl 0 rfl ?_
        refine zg_4_3 F t0 wF_X4_12 dX4_yearsLeft_41 ?_
        obtain ⟨r_4, v_3, hq44, h⟩ := zbind_ex h
        refine z_callVi F [zr G (zrf x0 3)] [] (kX2_pass x.2.1 G (zrf x0 1) (zt_f tc_4_1 t0) (zrf x0 3) (zt_f tc_4_3 t0) v_1 r_4 v_3 hq44) mI_X2_pass (c := 2) rfl (zt_f tc_4_1 t0) wM_X4_47 mi_X2_pass sl_X2_pass dX4_yearsLeft_44 rfl ⟨Nat.le_of_ble_eq_true rfl, Nat.le_of_ble_eq_true rfl⟩ rfl (Nat.le_of_ble_eq_true rfl) ⟨Nat.zero_le _, Nat.zero_le _⟩ ?_
        refine z_pop F dX4_yearsLeft_47 rfl ?_
        refine z_iinc F [(2, .int (x2 + (1 : Int32))), (0, zr G x0), (1, .int x1)] dX4_yearsLeft_48 2 rfl rfl (Nat.le_of_ble_eq_true rfl) rfl ?_
        refine z_goto F 13 dX4_yearsLeft_51 rfl ?_
        refine z_ls [(0, zr G x0), (1, .int x1), (2, .int (x2 + (1 : Int32)))] [1, 2, 0] rfl ?_
        exact ih x0 t0 x1 (x2 + (1 : Int32)) v_3 h
      · replace h := zif_f hc h
        refine z_iload_n F dX4_yearsLeft_34 rfl 2 rfl ?_
        cases h
        exact z_reti F hr hk dX4_yearsLeft_35

def fX4_yearsLeft (x0 : Nat) (x1 : Int32) (v : zV) : Option (Int32 × zV) :=
  zbindv (fX7_copy (zrf x0 3) (zrf x0 2) v) fun v_1 =>
  fX4_yearsLeft_13  zFU x0 x1 (0 : Int32) v_1
set_option maxRecDepth 4000 in
theorem kX4_yearsLeft (l : Launch) (G : zG) (x0 : Nat) (t0 : zty G x0 1 4) (x1 : Int32) (v : zV) (r : Int32) (w : zV) (h : fX4_yearsLeft x0 x1 v = some (r, w)) : zMet l yX4_yearsLeft cX4_yearsLeft 3 (Option.some FieldType.int) 7 214 0 0 [zr G x0, .int x1] G v (some (.int r)) w := by
  refine zM_of (own := RX4) (by decide) rfl (Nat.le_of_ble_eq_true rfl) (fun x hl F hr hk hcs => ?_)
  subst hl
  refine z_ls [(0, zr G x0), (1, .int x1)] [0, 1] rfl ?_
  unfold fX4_yearsLeft at h
  refine z_aload_n F dX4_yearsLeft_0 rfl 0 rfl ?_
  refine zg_4_3 F t0 wF_X4_12 dX4_yearsLeft_1 ?_
  refine z_aload_n F dX4_yearsLeft_4 rfl 0 rfl ?_
  refine zg_4_2 F t0 wF_X4_40 dX4_yearsLeft_5 ?_
  obtain ⟨v_1, hq8, h⟩ := zbindv_ex h
  refine z_callVv F [zr G (zrf x0 2)] [] (kX7_copy x.2.1 G (zrf x0 3) (zt_f tc_4_3 t0) (zrf x0 2) (zt_f tc_4_2 t0) v v_1 hq8) mI_X7_copy (c := 7) rfl (zt_f tc_4_3 t0) wM_X4_43 mi_X7_copy sl_X7_copy dX4_yearsLeft_8 rfl ⟨Nat.le_of_ble_eq_true rfl, Nat.le_of_ble_eq_true rfl⟩ rfl (Nat.le_of_ble_eq_true rfl) ⟨Nat.zero_le _, Nat.zero_le _⟩ ?_
  refine z_iconst (y := (0 : Int32)) F dX4_yearsLeft_11 rfl ?_
  refine z_istore_n F [(2, .int (0 : Int32)), (0, zr G x0), (1, .int x1)] dX4_yearsLeft_12 rfl (Nat.le_of_ble_eq_true rfl) rfl ?_
  refine z_ls [(0, zr G x0), (1, .int x1), (2, .int (0 : Int32))] [1, 2, 0] rfl ?_
  exact jX4_yearsLeft_13 x G F hr hk r w   zFU x0 t0 x1 (0 : Int32) v_1 h

theorem dX4_heirOf_0 : decode cX4_heirOf 0 = .ok (.aload_n 0, 1) := by decide +kernel
theorem dX4_heirOf_1 : decode cX4_heirOf 1 = .ok (.getfield 40, 3) := by decide +kernel
theorem dX4_heirOf_4 : decode cX4_heirOf 4 = .ok (.getfield 67, 3) := by decide +kernel
theorem dX4_heirOf_7 : decode cX4_heirOf 7 = .ok (.iload_n 1, 1) := by decide +kernel
theorem dX4_heirOf_8 : decode cX4_heirOf 8 = .ok (.invokestatic 70, 3) := by decide +kernel
theorem dX4_heirOf_11 : decode cX4_heirOf 11 = .ok (.iconst 1, 1) := by decide +kernel
theorem dX4_heirOf_12 : decode cX4_heirOf 12 = .ok (.if_icmp .eq 5, 3) := by decide +kernel
theorem dX4_heirOf_15 : decode cX4_heirOf 15 = .ok (.iconst (-1), 1) := by decide +kernel
theorem dX4_heirOf_16 : decode cX4_heirOf 16 = .ok (.ireturn, 1) := by decide +kernel
theorem dX4_heirOf_17 : decode cX4_heirOf 17 = .ok (.aload_n 0, 1) := by decide +kernel
theorem dX4_heirOf_18 : decode cX4_heirOf 18 = .ok (.getfield 12, 3) := by decide +kernel
theorem dX4_heirOf_21 : decode cX4_heirOf 21 = .ok (.aload_n 0, 1) := by decide +kernel
theorem dX4_heirOf_22 : decode cX4_heirOf 22 = .ok (.getfield 40, 3) := by decide +kernel
theorem dX4_heirOf_25 : decode cX4_heirOf 25 = .ok (.invokevirtual 43, 3) := by decide +kernel
theorem dX4_heirOf_28 : decode cX4_heirOf 28 = .ok (.aload_n 0, 1) := by decide +kernel
theorem dX4_heirOf_29 : decode cX4_heirOf 29 = .ok (.getfield 36, 3) := by decide +kernel
theorem dX4_heirOf_32 : decode cX4_heirOf 32 = .ok (.aload_n 0, 1) := by decide +kernel
theorem dX4_heirOf_33 : decode cX4_heirOf 33 = .ok (.getfield 12, 3) := by decide +kernel
theorem dX4_heirOf_36 : decode cX4_heirOf 36 = .ok (.iload_n 1, 1) := by decide +kernel
theorem dX4_heirOf_37 : decode cX4_heirOf 37 = .ok (.invokevirtual 74, 3) := by decide +kernel
theorem dX4_heirOf_40 : decode cX4_heirOf 40 = .ok (.pop, 1) := by decide +kernel
theorem dX4_heirOf_41 : decode cX4_heirOf 41 = .ok (.iconst 0, 1) := by decide +kernel
theorem dX4_heirOf_42 : decode cX4_heirOf 42 = .ok (.istore_n 2, 1) := by decide +kernel
theorem dX4_heirOf_43 : decode cX4_heirOf 43 = .ok (.iload_n 2, 1) := by decide +kernel
theorem dX4_heirOf_44 : decode cX4_heirOf 44 = .ok (.bipush 60, 2) := by decide +kernel
theorem dX4_heirOf_46 : decode cX4_heirOf 46 = .ok (.if_icmp .ge 28, 3) := by decide +kernel
theorem dX4_heirOf_49 : decode cX4_heirOf 49 = .ok (.aload_n 0, 1) := by decide +kernel
theorem dX4_heirOf_50 : decode cX4_heirOf 50 = .ok (.getfield 36, 3) := by decide +kernel
theorem dX4_heirOf_53 : decode cX4_heirOf 53 = .ok (.aload_n 0, 1) := by decide +kernel
theorem dX4_heirOf_54 : decode cX4_heirOf 54 = .ok (.getfield 12, 3) := by decide +kernel
theorem dX4_heirOf_57 : decode cX4_heirOf 57 = .ok (.invokevirtual 47, 3) := by decide +kernel
theorem dX4_heirOf_60 : decode cX4_heirOf 60 = .ok (.istore_n 3, 1) := by decide +kernel
theorem dX4_heirOf_61 : decode cX4_heirOf 61 = .ok (.iload_n 3, 1) := by decide +kernel
theorem dX4_heirOf_62 : decode cX4_heirOf 62 = .ok (.iconst (-1), 1) := by decide +kernel
theorem dX4_heirOf_63 : decode cX4_heirOf 63 = .ok (.if_icmp .eq 5, 3) := by decide +kernel
theorem dX4_heirOf_66 : decode cX4_heirOf 66 = .ok (.iload_n 3, 1) := by decide +kernel
theorem dX4_heirOf_67 : decode cX4_heirOf 67 = .ok (.ireturn, 1) := by decide +kernel
theorem dX4_heirOf_68 : decode cX4_heirOf 68 = .ok (.iinc 2 1, 3) := by decide +kernel
theorem dX4_heirOf_71 : decode cX4_heirOf 71 = .ok (.goto (-28), 3) := by decide +kernel
theorem dX4_heirOf_74 : decode cX4_heirOf 74 = .ok (.iconst (-1), 1) := by decide +kernel
theorem dX4_heirOf_75 : decode cX4_heirOf 75 = .ok (.ireturn, 1) := by decide +kernel
def fX4_heirOf_43  : Nat → Nat → Int32 → zV → Option (Int32 × zV)
  | 0 => fun _ _ _ => none
  | n + 1 => fun x0 x2 v =>
    if (60 : Int32) ≤ x2 then
      some ((-1 : Int32), v)
    else
      zbind (fX2_pass (zrf x0 1) (zrf x0 3) v) fun r_2 v_1 =>
      if r_2 = (-1 : Int32) then
        (fX4_heirOf_43 n) x0 (x2 + (1 : Int32)) v_1
      else
        some (r_2, v_1)
set_option maxRecDepth 4000 in
theorem jX4_heirOf_43 (x : zCx) (G : zG) (F : zF x G cX4_heirOf 4 RX4 7 214) (hr : x.2.2.2.2.2.2.2.2.1.sig.returnType = (Option.some FieldType.int)) (hk : x.2.2.2.2.2.2.2.2.1.locks = false) (r : Int32) (w : zV)  : ∀ (n : Nat) (x0 : Nat) (t0 : zty G x0 1 4) (x2 : Int32) (v : zV), fX4_heirOf_43 n x0 x2 v = some (r, w) → zJ x G 4 (zQ x G (some (.int r)) w 0 0) 0 0 43 [(0, zr G x0), (2, .int x2)] [] v := by
  intro n
  induction n with
  | zero => intro x0 t0 x2 v h; exact absurd h (by intro q; cases q)
  | succ n ih =>
    intro x0 t0 x2 v h
    rw [fX4_heirOf_43] at h
    dsimp only at h
    refine z_iload_n F dX4_heirOf_43 rfl 1 rfl ?_
    refine z_bipush (y := (60 : Int32)) F dX4_heirOf_44 rfl ?_
    refine z_icmp_ge F 74 dX4_heirOf_46 rfl (fun hc => ?_) (fun hc => ?_)
    · replace h := zif_t hc h
      refine z_iconst (y := (-1 : Int32)) F dX4_heirOf_74 rfl ?_
      cases h
      exact z_reti F hr hk dX4_heirOf_75
    · replace h := zif_f hc h
      refine z_aload_n F dX4_heirOf_49 rfl 0 rfl ?_
      refine zg_4_1 F t0 wF_X4_36 dX4_heirOf_50 ?_
      refine z_aload_n F dX4_heirOf_53 rfl 0 rfl ?_
      refine zg_4_3 F t0 wF_X4_12 dX4_heirOf_54 ?_
      obtain ⟨r_2, v_1, hq57, h⟩ := zbind_ex h
      refine z_callVi F [zr G (zrf x0 3)] [] (kX2_pass x.2.1 G (zrf x0 1) (zt_f tc_4_1 t0) (zrf x0 3) (zt_f tc_4_3 t0) v r_2 v_1 hq57) mI_X2_pass (c := 2) rfl (zt_f tc_4_1 t0) wM_X4_47 mi_X2_pass sl_X2_pass dX4_heirOf_57 rfl ⟨Nat.le_of_ble_eq_true rfl, Nat.le_of_ble_eq_true rfl⟩ rfl (Nat.le_of_ble_eq_true rfl) ⟨Nat.zero_le _, Nat.zero_le _⟩ ?_
      refine z_istore_n F [(3, .int r_2), (0, zr G x0), (2, .int x2)] dX4_heirOf_60 rfl (Nat.le_of_ble_eq_true rfl) rfl ?_
      refine z_iload_n F dX4_heirOf_61 rfl 0 rfl ?_
      refine z_iconst (y := (-1 : Int32)) F dX4_heirOf_62 rfl ?_
      refine z_icmp_eq F 68 dX4_heirOf_63 rfl (fun hc => ?_) (fun hc => ?_)
      · replace h := zif_t hc h
        refine z_iinc F [(2, .int (x2 + (1 : Int32))), (3, .int r_2), (0, zr G x0)] dX4_heirOf_68 2 rfl rfl (Nat.le_of_ble_eq_true rfl) rfl ?_
        refine z_goto F 43 dX4_heirOf_71 rfl ?_
        refine z_ls [(0, zr G x0), (2, .int (x2 + (1 : Int32)))] [2, 0] rfl ?_
        exact ih x0 t0 (x2 + (1 : Int32)) v_1 h
      · replace h := zif_f hc h
        refine z_iload_n F dX4_heirOf_66 rfl 0 rfl ?_
        cases h
        exact z_reti F hr hk dX4_heirOf_67

def fX4_heirOf (x0 : Nat) (x1 : Int32) (v : zV) : Option (Int32 × zV) :=
  zbind (fX9_get (zrf (zrf x0 2) 9) x1 v) fun r_2 v_1 =>
  if r_2 = (1 : Int32) then
    zbindv (fX7_copy (zrf x0 3) (zrf x0 2) v_1) fun v_3 =>
    zbind (fX2_kill (zrf x0 1) (zrf x0 3) x1 v_3) fun r_5 v_4 =>
    fX4_heirOf_43  zFU x0 (0 : Int32) v_4
  else
    some ((-1 : Int32), v_1)
set_option maxRecDepth 4000 in
theorem kX4_heirOf (l : Launch) (G : zG) (x0 : Nat) (t0 : zty G x0 1 4) (x1 : Int32) (v : zV) (r : Int32) (w : zV) (h : fX4_heirOf x0 x1 v = some (r, w)) : zMet l yX4_heirOf cX4_heirOf 4 (Option.some FieldType.int) 7 214 0 0 [zr G x0, .int x1] G v (some (.int r)) w := by
  refine zM_of (own := RX4) (by decide) rfl (Nat.le_of_ble_eq_true rfl) (fun x hl F hr hk hcs => ?_)
  subst hl
  refine z_ls [(0, zr G x0), (1, .int x1)] [0, 1] rfl ?_
  unfold fX4_heirOf at h
  refine z_aload_n F dX4_heirOf_0 rfl 0 rfl ?_
  refine zg_4_2 F t0 wF_X4_40 dX4_heirOf_1 ?_
  refine zg_7_9 F (zt_f tc_4_2 t0) wF_X4_67 dX4_heirOf_4 ?_
  refine z_iload_n F dX4_heirOf_7 rfl 1 rfl ?_
  obtain ⟨r_2, v_1, hq8, h⟩ := zbind_ex h
  refine z_callSNi F [zr G (zrf (zrf x0 2) 9), .int x1] [] (kX9_get x.2.1 G (zrf (zrf x0 2) 9) (zt_f tc_7_9 (zt_f tc_4_2 t0)) x1 v r_2 v_1 hq8) mI_X9_get wN_X4_70 ms_X9_get dX4_heirOf_8 rfl ⟨Nat.le_of_ble_eq_true rfl, Nat.le_of_ble_eq_true rfl⟩ rfl (Nat.le_of_ble_eq_true rfl) ⟨Nat.zero_le _, Nat.zero_le _⟩ ?_
  refine z_iconst (y := (1 : Int32)) F dX4_heirOf_11 rfl ?_
  refine z_icmp_eq F 17 dX4_heirOf_12 rfl (fun hc => ?_) (fun hc => ?_)
  · replace h := zif_t hc h
    refine z_aload_n F dX4_heirOf_17 rfl 0 rfl ?_
    refine zg_4_3 F t0 wF_X4_12 dX4_heirOf_18 ?_
    refine z_aload_n F dX4_heirOf_21 rfl 0 rfl ?_
    refine zg_4_2 F t0 wF_X4_40 dX4_heirOf_22 ?_
    obtain ⟨v_3, hq25, h⟩ := zbindv_ex h
    refine z_callVv F [zr G (zrf x0 2)] [] (kX7_copy x.2.1 G (zrf x0 3) (zt_f tc_4_3 t0) (zrf x0 2) (zt_f tc_4_2 t0) v_1 v_3 hq25) mI_X7_copy (c := 7) rfl (zt_f tc_4_3 t0) wM_X4_43 mi_X7_copy sl_X7_copy dX4_heirOf_25 rfl ⟨Nat.le_of_ble_eq_true rfl, Nat.le_of_ble_eq_true rfl⟩ rfl (Nat.le_of_ble_eq_true rfl) ⟨Nat.zero_le _, Nat.zero_le _⟩ ?_
    refine z_aload_n F dX4_heirOf_28 rfl 0 rfl ?_
    refine zg_4_1 F t0 wF_X4_36 dX4_heirOf_29 ?_
    refine z_aload_n F dX4_heirOf_32 rfl 0 rfl ?_
    refine zg_4_3 F t0 wF_X4_12 dX4_heirOf_33 ?_
    refine z_iload_n F dX4_heirOf_36 rfl 1 rfl ?_
    obtain ⟨r_5, v_4, hq37, h⟩ := zbind_ex h
    refine z_callVi F [zr G (zrf x0 3), .int x1] [] (kX2_kill x.2.1 G (zrf x0 1) (zt_f tc_4_1 t0) (zrf x0 3) (zt_f tc_4_3 t0) x1 v_3 r_5 v_4 hq37) mI_X2_kill (c := 2) rfl (zt_f tc_4_1 t0) wM_X4_74 mi_X2_kill sl_X2_kill dX4_heirOf_37 rfl ⟨Nat.le_of_ble_eq_true rfl, Nat.le_of_ble_eq_true rfl⟩ rfl (Nat.le_of_ble_eq_true rfl) ⟨Nat.zero_le _, Nat.zero_le _⟩ ?_
    refine z_pop F dX4_heirOf_40 rfl ?_
    refine z_iconst (y := (0 : Int32)) F dX4_heirOf_41 rfl ?_
    refine z_istore_n F [(2, .int (0 : Int32)), (0, zr G x0), (1, .int x1)] dX4_heirOf_42 rfl (Nat.le_of_ble_eq_true rfl) rfl ?_
    refine z_ls [(0, zr G x0), (2, .int (0 : Int32))] [1, 0] rfl ?_
    exact jX4_heirOf_43 x G F hr hk r w   zFU x0 t0 (0 : Int32) v_4 h
  · replace h := zif_f hc h
    refine z_iconst (y := (-1 : Int32)) F dX4_heirOf_15 rfl ?_
    cases h
    exact z_reti F hr hk dX4_heirOf_16

theorem dX4_leavingWith_0 : decode cX4_leavingWith 0 = .ok (.aload_n 0, 1) := by decide +kernel
theorem dX4_leavingWith_1 : decode cX4_leavingWith 1 = .ok (.getfield 12, 3) := by decide +kernel
theorem dX4_leavingWith_4 : decode cX4_leavingWith 4 = .ok (.aload_n 0, 1) := by decide +kernel
theorem dX4_leavingWith_5 : decode cX4_leavingWith 5 = .ok (.getfield 40, 3) := by decide +kernel
theorem dX4_leavingWith_8 : decode cX4_leavingWith 8 = .ok (.invokevirtual 43, 3) := by decide +kernel
theorem dX4_leavingWith_11 : decode cX4_leavingWith 11 = .ok (.aload_n 0, 1) := by decide +kernel
theorem dX4_leavingWith_12 : decode cX4_leavingWith 12 = .ok (.getfield 36, 3) := by decide +kernel
theorem dX4_leavingWith_15 : decode cX4_leavingWith 15 = .ok (.aload_n 0, 1) := by decide +kernel
theorem dX4_leavingWith_16 : decode cX4_leavingWith 16 = .ok (.getfield 12, 3) := by decide +kernel
theorem dX4_leavingWith_19 : decode cX4_leavingWith 19 = .ok (.iload_n 1, 1) := by decide +kernel
theorem dX4_leavingWith_20 : decode cX4_leavingWith 20 = .ok (.invokevirtual 74, 3) := by decide +kernel
theorem dX4_leavingWith_23 : decode cX4_leavingWith 23 = .ok (.pop, 1) := by decide +kernel
theorem dX4_leavingWith_24 : decode cX4_leavingWith 24 = .ok (.iconst 0, 1) := by decide +kernel
theorem dX4_leavingWith_25 : decode cX4_leavingWith 25 = .ok (.istore_n 2, 1) := by decide +kernel
theorem dX4_leavingWith_26 : decode cX4_leavingWith 26 = .ok (.iconst 0, 1) := by decide +kernel
theorem dX4_leavingWith_27 : decode cX4_leavingWith 27 = .ok (.istore_n 3, 1) := by decide +kernel
theorem dX4_leavingWith_28 : decode cX4_leavingWith 28 = .ok (.iload_n 3, 1) := by decide +kernel
theorem dX4_leavingWith_29 : decode cX4_leavingWith 29 = .ok (.aload_n 0, 1) := by decide +kernel
theorem dX4_leavingWith_30 : decode cX4_leavingWith 30 = .ok (.getfield 32, 3) := by decide +kernel
theorem dX4_leavingWith_33 : decode cX4_leavingWith 33 = .ok (.getfield 78, 3) := by decide +kernel
theorem dX4_leavingWith_36 : decode cX4_leavingWith 36 = .ok (.if_icmp .ge 45, 3) := by decide +kernel
theorem dX4_leavingWith_39 : decode cX4_leavingWith 39 = .ok (.aload_n 0, 1) := by decide +kernel
theorem dX4_leavingWith_40 : decode cX4_leavingWith 40 = .ok (.getfield 12, 3) := by decide +kernel
theorem dX4_leavingWith_43 : decode cX4_leavingWith 43 = .ok (.getfield 67, 3) := by decide +kernel
theorem dX4_leavingWith_46 : decode cX4_leavingWith 46 = .ok (.iload_n 3, 1) := by decide +kernel
theorem dX4_leavingWith_47 : decode cX4_leavingWith 47 = .ok (.invokestatic 70, 3) := by decide +kernel
theorem dX4_leavingWith_50 : decode cX4_leavingWith 50 = .ok (.iconst 2, 1) := by decide +kernel
theorem dX4_leavingWith_51 : decode cX4_leavingWith 51 = .ok (.if_icmp .ne 24, 3) := by decide +kernel
theorem dX4_leavingWith_54 : decode cX4_leavingWith 54 = .ok (.aload_n 0, 1) := by decide +kernel
theorem dX4_leavingWith_55 : decode cX4_leavingWith 55 = .ok (.getfield 40, 3) := by decide +kernel
theorem dX4_leavingWith_58 : decode cX4_leavingWith 58 = .ok (.getfield 67, 3) := by decide +kernel
theorem dX4_leavingWith_61 : decode cX4_leavingWith 61 = .ok (.iload_n 3, 1) := by decide +kernel
theorem dX4_leavingWith_62 : decode cX4_leavingWith 62 = .ok (.invokestatic 70, 3) := by decide +kernel
theorem dX4_leavingWith_65 : decode cX4_leavingWith 65 = .ok (.iconst 1, 1) := by decide +kernel
theorem dX4_leavingWith_66 : decode cX4_leavingWith 66 = .ok (.if_icmp .ne 9, 3) := by decide +kernel
theorem dX4_leavingWith_69 : decode cX4_leavingWith 69 = .ok (.iload_n 2, 1) := by decide +kernel
theorem dX4_leavingWith_70 : decode cX4_leavingWith 70 = .ok (.iconst 1, 1) := by decide +kernel
theorem dX4_leavingWith_71 : decode cX4_leavingWith 71 = .ok (.iload_n 3, 1) := by decide +kernel
theorem dX4_leavingWith_72 : decode cX4_leavingWith 72 = .ok (.ishl, 1) := by decide +kernel
theorem dX4_leavingWith_73 : decode cX4_leavingWith 73 = .ok (.ior, 1) := by decide +kernel
theorem dX4_leavingWith_74 : decode cX4_leavingWith 74 = .ok (.istore_n 2, 1) := by decide +kernel
theorem dX4_leavingWith_75 : decode cX4_leavingWith 75 = .ok (.iinc 3 1, 3) := by decide +kernel
theorem dX4_leavingWith_78 : decode cX4_leavingWith 78 = .ok (.goto (-50), 3) := by decide +kernel
theorem dX4_leavingWith_81 : decode cX4_leavingWith 81 = .ok (.iload_n 2, 1) := by decide +kernel
theorem dX4_leavingWith_82 : decode cX4_leavingWith 82 = .ok (.ireturn, 1) := by decide +kernel
def fX4_leavingWith_28  : Nat → Nat → Int32 → Int32 → zV → Option (Int32 × zV)
  | 0 => fun _ _ _ _ => none
  | n + 1 => fun x0 x2 x3 v =>
    if (v (zrf x0 0) 1) ≤ x3 then
      some (x2, v)
    else
      zbind (fX9_get (zrf (zrf x0 3) 9) x3 v) fun r_2 v_1 =>
      if r_2 = (2 : Int32) then
        zbind (fX9_get (zrf (zrf x0 2) 9) x3 v_1) fun r_4 v_3 =>
        if r_4 = (1 : Int32) then
          (fX4_leavingWith_28 n) x0 (x2 ||| ((1 : Int32) <<< (x3 &&& 31))) (x3 + (1 : Int32)) v_3
        else
          (fX4_leavingWith_28 n) x0 x2 (x3 + (1 : Int32)) v_3
      else
        (fX4_leavingWith_28 n) x0 x2 (x3 + (1 : Int32)) v_1
set_option maxRecDepth 4000 in
theorem jX4_leavingWith_28 (x : zCx) (G : zG) (F : zF x G cX4_leavingWith 4 RX4 5 170) (hr : x.2.2.2.2.2.2.2.2.1.sig.returnType = (Option.some FieldType.int)) (hk : x.2.2.2.2.2.2.2.2.1.locks = false) (r : Int32) (w : zV)  : ∀ (n : Nat) (x0 : Nat) (t0 : zty G x0 1 4) (x2 : Int32) (x3 : Int32) (v : zV), fX4_leavingWith_28 n x0 x2 x3 v = some (r, w) → zJ x G 4 (zQ x G (some (.int r)) w 0 0) 0 0 28 [(0, zr G x0), (2, .int x2), (3, .int x3)] [] v := by
  intro n
  induction n with
  | zero => intro x0 t0 x2 x3 v h; exact absurd h (by intro q; cases q)
  | succ n ih =>
    intro x0 t0 x2 x3 v h
    rw [fX4_leavingWith_28] at h
    dsimp only at h
    refine z_iload_n F dX4_leavingWith_28 rfl 2 rfl ?_
    refine z_aload_n F dX4_leavingWith_29 rfl 0 rfl ?_
    refine zg_4_0 F t0 wF_X4_32 dX4_leavingWith_30 ?_
    refine zg_0_1 F (zt_f tc_4_0 t0) wF_X4_78 dX4_leavingWith_33 ?_
    refine z_icmp_ge F 81 dX4_leavingWith_36 rfl (fun hc => ?_) (fun hc => ?_)
    · replace h := zif_t hc h
      refine z_iload_n F dX4_leavingWith_81 rfl 1 rfl ?_
      cases h
      exact z_reti F hr hk dX4_leavingWith_82
    · replace h := zif_f hc h
      refine z_aload_n F dX4_leavingWith_39 rfl 0 rfl ?_
      refine zg_4_3 F t0 wF_X4_12 dX4_leavingWith_40 ?_
      refine zg_7_9 F (zt_f tc_4_3 t0) wF_X4_67 dX4_leavingWith_43 ?_
      refine z_iload_n F dX4_leavingWith_46 rfl 2 rfl ?_
      obtain ⟨r_2, v_1, hq47, h⟩ := zbind_ex h
      refine z_callSNi F [zr G (zrf (zrf x0 3) 9), .int x3] [] (kX9_get x.2.1 G (zrf (zrf x0 3) 9) (zt_f tc_7_9 (zt_f tc_4_3 t0)) x3 v r_2 v_1 hq47) mI_X9_get wN_X4_70 ms_X9_get dX4_leavingWith_47 rfl ⟨Nat.le_of_ble_eq_true rfl, Nat.le_of_ble_eq_true rfl⟩ rfl (Nat.le_of_ble_eq_true rfl) ⟨Nat.zero_le _, Nat.zero_le _⟩ ?_
      refine z_iconst (y := (2 : Int32)) F dX4_leavingWith_50 rfl ?_
      refine z_icmp_ne F 75 dX4_leavingWith_51 rfl (fun hc => ?_) (fun hc => ?_)
      · replace h := zif_f hc h
        refine z_iinc F [(3, .int (x3 + (1 : Int32))), (0, zr G x0), (2, .int x2)] dX4_leavingWith_75 2 rfl rfl (Nat.le_of_ble_eq_true rfl) rfl ?_
        refine z_goto F 28 dX4_leavingWith_78 rfl ?_
        refine z_ls [(0, zr G x0), (2, .int x2), (3, .int (x3 + (1 : Int32)))] [1, 2, 0] rfl ?_
        exact ih x0 t0 x2 (x3 + (1 : Int32)) v_1 h
      · replace h := zif_t hc h
        refine z_aload_n F dX4_leavingWith_54 rfl 0 rfl ?_
        refine zg_4_2 F t0 wF_X4_40 dX4_leavingWith_55 ?_
        refine zg_7_9 F (zt_f tc_4_2 t0) wF_X4_67 dX4_leavingWith_58 ?_
        refine z_iload_n F dX4_leavingWith_61 rfl 2 rfl ?_
        obtain ⟨r_4, v_3, hq62, h⟩ := zbind_ex h
        refine z_callSNi F [zr G (zrf (zrf x0 2) 9), .int x3] [] (kX9_get x.2.1 G (zrf (zrf x0 2) 9) (zt_f tc_7_9 (zt_f tc_4_2 t0)) x3 v_1 r_4 v_3 hq62) mI_X9_get wN_X4_70 ms_X9_get dX4_leavingWith_62 rfl ⟨Nat.le_of_ble_eq_true rfl, Nat.le_of_ble_eq_true rfl⟩ rfl (Nat.le_of_ble_eq_true rfl) ⟨Nat.zero_le _, Nat.zero_le _⟩ ?_
        refine z_iconst (y := (1 : Int32)) F dX4_leavingWith_65 rfl ?_
        refine z_icmp_ne F 75 dX4_leavingWith_66 rfl (fun hc => ?_) (fun hc => ?_)
        · replace h := zif_f hc h
          refine z_iinc F [(3, .int (x3 + (1 : Int32))), (0, zr G x0), (2, .int x2)] dX4_leavingWith_75 2 rfl rfl (Nat.le_of_ble_eq_true rfl) rfl ?_
          refine z_goto F 28 dX4_leavingWith_78 rfl ?_
          refine z_ls [(0, zr G x0), (2, .int x2), (3, .int (x3 + (1 : Int32)))] [1, 2, 0] rfl ?_
          exact ih x0 t0 x2 (x3 + (1 : Int32)) v_3 h
        · replace h := zif_t hc h
          refine z_iload_n F dX4_leavingWith_69 rfl 1 rfl ?_
          refine z_iconst (y := (1 : Int32)) F dX4_leavingWith_70 rfl ?_
          refine z_iload_n F dX4_leavingWith_71 rfl 2 rfl ?_
          refine z_ishl F dX4_leavingWith_72 ?_
          refine z_ior F dX4_leavingWith_73 ?_
          refine z_istore_n F [(2, .int (x2 ||| ((1 : Int32) <<< (x3 &&& 31)))), (0, zr G x0), (3, .int x3)] dX4_leavingWith_74 rfl (Nat.le_of_ble_eq_true rfl) rfl ?_
          refine z_iinc F [(3, .int (x3 + (1 : Int32))), (2, .int (x2 ||| ((1 : Int32) <<< (x3 &&& 31)))), (0, zr G x0)] dX4_leavingWith_75 2 rfl rfl (Nat.le_of_ble_eq_true rfl) rfl ?_
          refine z_goto F 28 dX4_leavingWith_78 rfl ?_
          refine z_ls [(0, zr G x0), (2, .int (x2 ||| ((1 : Int32) <<< (x3 &&& 31)))), (3, .int (x3 + (1 : Int32)))] [2, 1, 0] rfl ?_
          exact ih x0 t0 (x2 ||| ((1 : Int32) <<< (x3 &&& 31))) (x3 + (1 : Int32)) v_3 h

def fX4_leavingWith (x0 : Nat) (x1 : Int32) (v : zV) : Option (Int32 × zV) :=
  zbindv (fX7_copy (zrf x0 3) (zrf x0 2) v) fun v_1 =>
  zbind (fX2_kill (zrf x0 1) (zrf x0 3) x1 v_1) fun r_3 v_2 =>
  fX4_leavingWith_28  zFU x0 (0 : Int32) (0 : Int32) v_2
set_option maxRecDepth 4000 in
theorem kX4_leavingWith (l : Launch) (G : zG) (x0 : Nat) (t0 : zty G x0 1 4) (x1 : Int32) (v : zV) (r : Int32) (w : zV) (h : fX4_leavingWith x0 x1 v = some (r, w)) : zMet l yX4_leavingWith cX4_leavingWith 4 (Option.some FieldType.int) 5 170 0 0 [zr G x0, .int x1] G v (some (.int r)) w := by
  refine zM_of (own := RX4) (by decide) rfl (Nat.le_of_ble_eq_true rfl) (fun x hl F hr hk hcs => ?_)
  subst hl
  refine z_ls [(0, zr G x0), (1, .int x1)] [0, 1] rfl ?_
  unfold fX4_leavingWith at h
  refine z_aload_n F dX4_leavingWith_0 rfl 0 rfl ?_
  refine zg_4_3 F t0 wF_X4_12 dX4_leavingWith_1 ?_
  refine z_aload_n F dX4_leavingWith_4 rfl 0 rfl ?_
  refine zg_4_2 F t0 wF_X4_40 dX4_leavingWith_5 ?_
  obtain ⟨v_1, hq8, h⟩ := zbindv_ex h
  refine z_callVv F [zr G (zrf x0 2)] [] (kX7_copy x.2.1 G (zrf x0 3) (zt_f tc_4_3 t0) (zrf x0 2) (zt_f tc_4_2 t0) v v_1 hq8) mI_X7_copy (c := 7) rfl (zt_f tc_4_3 t0) wM_X4_43 mi_X7_copy sl_X7_copy dX4_leavingWith_8 rfl ⟨Nat.le_of_ble_eq_true rfl, Nat.le_of_ble_eq_true rfl⟩ rfl (Nat.le_of_ble_eq_true rfl) ⟨Nat.zero_le _, Nat.zero_le _⟩ ?_
  refine z_aload_n F dX4_leavingWith_11 rfl 0 rfl ?_
  refine zg_4_1 F t0 wF_X4_36 dX4_leavingWith_12 ?_
  refine z_aload_n F dX4_leavingWith_15 rfl 0 rfl ?_
  refine zg_4_3 F t0 wF_X4_12 dX4_leavingWith_16 ?_
  refine z_iload_n F dX4_leavingWith_19 rfl 1 rfl ?_
  obtain ⟨r_3, v_2, hq20, h⟩ := zbind_ex h
  refine z_callVi F [zr G (zrf x0 3), .int x1] [] (kX2_kill x.2.1 G (zrf x0 1) (zt_f tc_4_1 t0) (zrf x0 3) (zt_f tc_4_3 t0) x1 v_1 r_3 v_2 hq20) mI_X2_kill (c := 2) rfl (zt_f tc_4_1 t0) wM_X4_74 mi_X2_kill sl_X2_kill dX4_leavingWith_20 rfl ⟨Nat.le_of_ble_eq_true rfl, Nat.le_of_ble_eq_true rfl⟩ rfl (Nat.le_of_ble_eq_true rfl) ⟨Nat.zero_le _, Nat.zero_le _⟩ ?_
  refine z_pop F dX4_leavingWith_23 rfl ?_
  refine z_iconst (y := (0 : Int32)) F dX4_leavingWith_24 rfl ?_
  refine z_istore_n F [(2, .int (0 : Int32)), (0, zr G x0), (1, .int x1)] dX4_leavingWith_25 rfl (Nat.le_of_ble_eq_true rfl) rfl ?_
  refine z_iconst (y := (0 : Int32)) F dX4_leavingWith_26 rfl ?_
  refine z_istore_n F [(3, .int (0 : Int32)), (2, .int (0 : Int32)), (0, zr G x0), (1, .int x1)] dX4_leavingWith_27 rfl (Nat.le_of_ble_eq_true rfl) rfl ?_
  refine z_ls [(0, zr G x0), (2, .int (0 : Int32)), (3, .int (0 : Int32))] [2, 1, 0] rfl ?_
  exact jX4_leavingWith_28 x G F hr hk r w   zFU x0 t0 (0 : Int32) (0 : Int32) v_2 h

theorem dX4_rankOf_0 : decode cX4_rankOf 0 = .ok (.aload_n 0, 1) := by decide +kernel
theorem dX4_rankOf_1 : decode cX4_rankOf 1 = .ok (.getfield 36, 3) := by decide +kernel
theorem dX4_rankOf_4 : decode cX4_rankOf 4 = .ok (.aload_n 0, 1) := by decide +kernel
theorem dX4_rankOf_5 : decode cX4_rankOf 5 = .ok (.getfield 40, 3) := by decide +kernel
theorem dX4_rankOf_8 : decode cX4_rankOf 8 = .ok (.iload_n 1, 1) := by decide +kernel
theorem dX4_rankOf_9 : decode cX4_rankOf 9 = .ok (.invokevirtual 83, 3) := by decide +kernel
theorem dX4_rankOf_12 : decode cX4_rankOf 12 = .ok (.istore_n 2, 1) := by decide +kernel
theorem dX4_rankOf_13 : decode cX4_rankOf 13 = .ok (.iconst 0, 1) := by decide +kernel
theorem dX4_rankOf_14 : decode cX4_rankOf 14 = .ok (.istore_n 3, 1) := by decide +kernel
theorem dX4_rankOf_15 : decode cX4_rankOf 15 = .ok (.iconst 0, 1) := by decide +kernel
theorem dX4_rankOf_16 : decode cX4_rankOf 16 = .ok (.istore 4, 2) := by decide +kernel
theorem dX4_rankOf_18 : decode cX4_rankOf 18 = .ok (.iload 4, 2) := by decide +kernel
theorem dX4_rankOf_20 : decode cX4_rankOf 20 = .ok (.aload_n 0, 1) := by decide +kernel
theorem dX4_rankOf_21 : decode cX4_rankOf 21 = .ok (.getfield 32, 3) := by decide +kernel
theorem dX4_rankOf_24 : decode cX4_rankOf 24 = .ok (.getfield 78, 3) := by decide +kernel
theorem dX4_rankOf_27 : decode cX4_rankOf 27 = .ok (.if_icmp .ge 41, 3) := by decide +kernel
theorem dX4_rankOf_30 : decode cX4_rankOf 30 = .ok (.aload_n 0, 1) := by decide +kernel
theorem dX4_rankOf_31 : decode cX4_rankOf 31 = .ok (.getfield 40, 3) := by decide +kernel
theorem dX4_rankOf_34 : decode cX4_rankOf 34 = .ok (.iload 4, 2) := by decide +kernel
theorem dX4_rankOf_36 : decode cX4_rankOf 36 = .ok (.invokevirtual 86, 3) := by decide +kernel
theorem dX4_rankOf_39 : decode cX4_rankOf 39 = .ok (.ifCond .eq 23, 3) := by decide +kernel
theorem dX4_rankOf_42 : decode cX4_rankOf 42 = .ok (.aload_n 0, 1) := by decide +kernel
theorem dX4_rankOf_43 : decode cX4_rankOf 43 = .ok (.getfield 36, 3) := by decide +kernel
theorem dX4_rankOf_46 : decode cX4_rankOf 46 = .ok (.aload_n 0, 1) := by decide +kernel
theorem dX4_rankOf_47 : decode cX4_rankOf 47 = .ok (.getfield 40, 3) := by decide +kernel
theorem dX4_rankOf_50 : decode cX4_rankOf 50 = .ok (.iload 4, 2) := by decide +kernel
theorem dX4_rankOf_52 : decode cX4_rankOf 52 = .ok (.invokevirtual 83, 3) := by decide +kernel
theorem dX4_rankOf_55 : decode cX4_rankOf 55 = .ok (.iload_n 2, 1) := by decide +kernel
theorem dX4_rankOf_56 : decode cX4_rankOf 56 = .ok (.if_icmp .le 6, 3) := by decide +kernel
theorem dX4_rankOf_59 : decode cX4_rankOf 59 = .ok (.iinc 3 1, 3) := by decide +kernel
theorem dX4_rankOf_62 : decode cX4_rankOf 62 = .ok (.iinc 4 1, 3) := by decide +kernel
theorem dX4_rankOf_65 : decode cX4_rankOf 65 = .ok (.goto (-47), 3) := by decide +kernel
theorem dX4_rankOf_68 : decode cX4_rankOf 68 = .ok (.iload_n 3, 1) := by decide +kernel
theorem dX4_rankOf_69 : decode cX4_rankOf 69 = .ok (.ireturn, 1) := by decide +kernel
def fX4_rankOf_18  : Nat → Nat → Int32 → Int32 → Int32 → zV → Option (Int32 × zV)
  | 0 => fun _ _ _ _ _ => none
  | n + 1 => fun x0 x2 x3 x4 v =>
    if (v (zrf x0 0) 1) ≤ x4 then
      some (x3, v)
    else
      zbind (fX7_isWaiting (zrf x0 2) x4 v) fun r_2 v_1 =>
      if r_2 = (0 : Int32) then
        (fX4_rankOf_18 n) x0 x2 x3 (x4 + (1 : Int32)) v_1
      else
        zbind (fX2_scoreOf (zrf x0 1) (zrf x0 2) x4 v_1) fun r_4 v_3 =>
        if r_4 ≤ x2 then
          (fX4_rankOf_18 n) x0 x2 x3 (x4 + (1 : Int32)) v_3
        else
          (fX4_rankOf_18 n) x0 x2 (x3 + (1 : Int32)) (x4 + (1 : Int32)) v_3
set_option maxRecDepth 4000 in
theorem jX4_rankOf_18 (x : zCx) (G : zG) (F : zF x G cX4_rankOf 5 RX4 4 148) (hr : x.2.2.2.2.2.2.2.2.1.sig.returnType = (Option.some FieldType.int)) (hk : x.2.2.2.2.2.2.2.2.1.locks = false) (r : Int32) (w : zV)  : ∀ (n : Nat) (x0 : Nat) (t0 : zty G x0 1 4) (x2 : Int32) (x3 : Int32) (x4 : Int32) (v : zV), fX4_rankOf_18 n x0 x2 x3 x4 v = some (r, w) → zJ x G 5 (zQ x G (some (.int r)) w 0 0) 0 0 18 [(0, zr G x0), (2, .int x2), (3, .int x3), (4, .int x4)] [] v := by
  intro n
  induction n with
  | zero => intro x0 t0 x2 x3 x4 v h; exact absurd h (by intro q; cases q)
  | succ n ih =>
    intro x0 t0 x2 x3 x4 v h
    rw [fX4_rankOf_18] at h
    dsimp only at h
    refine z_iload F dX4_rankOf_18 3 rfl ?_
    refine z_aload_n F dX4_rankOf_20 rfl 0 rfl ?_
    refine zg_4_0 F t0 wF_X4_32 dX4_rankOf_21 ?_
    refine zg_0_1 F (zt_f tc_4_0 t0) wF_X4_78 dX4_rankOf_24 ?_
    refine z_icmp_ge F 68 dX4_rankOf_27 rfl (fun hc => ?_) (fun hc => ?_)
    · replace h := zif_t hc h
      refine z_iload_n F dX4_rankOf_68 rfl 2 rfl ?_
      cases h
      exact z_reti F hr hk dX4_rankOf_69
    · replace h := zif_f hc h
      refine z_aload_n F dX4_rankOf_30 rfl 0 rfl ?_
      refine zg_4_2 F t0 wF_X4_40 dX4_rankOf_31 ?_
      refine z_iload F dX4_rankOf_34 3 rfl ?_
      obtain ⟨r_2, v_1, hq36, h⟩ := zbind_ex h
      refine z_callVi F [.int x4] [] (kX7_isWaiting x.2.1 G (zrf x0 2) (zt_f tc_4_2 t0) x4 v r_2 v_1 hq36) mI_X7_isWaiting (c := 7) rfl (zt_f tc_4_2 t0) wM_X4_86 mi_X7_isWaiting sl_X7_isWaiting dX4_rankOf_36 rfl ⟨Nat.le_of_ble_eq_true rfl, Nat.le_of_ble_eq_true rfl⟩ rfl (Nat.le_of_ble_eq_true rfl) ⟨Nat.zero_le _, Nat.zero_le _⟩ ?_
      refine z_if_eq F 62 dX4_rankOf_39 rfl (fun hc => ?_) (fun hc => ?_)
      · replace h := zif_t hc h
        refine z_iinc F [(4, .int (x4 + (1 : Int32))), (0, zr G x0), (2, .int x2), (3, .int x3)] dX4_rankOf_62 3 rfl rfl (Nat.le_of_ble_eq_true rfl) rfl ?_
        refine z_goto F 18 dX4_rankOf_65 rfl ?_
        refine z_ls [(0, zr G x0), (2, .int x2), (3, .int x3), (4, .int (x4 + (1 : Int32)))] [1, 2, 3, 0] rfl ?_
        exact ih x0 t0 x2 x3 (x4 + (1 : Int32)) v_1 h
      · replace h := zif_f hc h
        refine z_aload_n F dX4_rankOf_42 rfl 0 rfl ?_
        refine zg_4_1 F t0 wF_X4_36 dX4_rankOf_43 ?_
        refine z_aload_n F dX4_rankOf_46 rfl 0 rfl ?_
        refine zg_4_2 F t0 wF_X4_40 dX4_rankOf_47 ?_
        refine z_iload F dX4_rankOf_50 3 rfl ?_
        obtain ⟨r_4, v_3, hq52, h⟩ := zbind_ex h
        refine z_callVi F [zr G (zrf x0 2), .int x4] [] (kX2_scoreOf x.2.1 G (zrf x0 1) (zt_f tc_4_1 t0) (zrf x0 2) (zt_f tc_4_2 t0) x4 v_1 r_4 v_3 hq52) mI_X2_scoreOf (c := 2) rfl (zt_f tc_4_1 t0) wM_X4_83 mi_X2_scoreOf sl_X2_scoreOf dX4_rankOf_52 rfl ⟨Nat.le_of_ble_eq_true rfl, Nat.le_of_ble_eq_true rfl⟩ rfl (Nat.le_of_ble_eq_true rfl) ⟨Nat.zero_le _, Nat.zero_le _⟩ ?_
        refine z_iload_n F dX4_rankOf_55 rfl 1 rfl ?_
        refine z_icmp_le F 62 dX4_rankOf_56 rfl (fun hc => ?_) (fun hc => ?_)
        · replace h := zif_t hc h
          refine z_iinc F [(4, .int (x4 + (1 : Int32))), (0, zr G x0), (2, .int x2), (3, .int x3)] dX4_rankOf_62 3 rfl rfl (Nat.le_of_ble_eq_true rfl) rfl ?_
          refine z_goto F 18 dX4_rankOf_65 rfl ?_
          refine z_ls [(0, zr G x0), (2, .int x2), (3, .int x3), (4, .int (x4 + (1 : Int32)))] [1, 2, 3, 0] rfl ?_
          exact ih x0 t0 x2 x3 (x4 + (1 : Int32)) v_3 h
        · replace h := zif_f hc h
          refine z_iinc F [(3, .int (x3 + (1 : Int32))), (0, zr G x0), (2, .int x2), (4, .int x4)] dX4_rankOf_59 2 rfl rfl (Nat.le_of_ble_eq_true rfl) rfl ?_
          refine z_iinc F [(4, .int (x4 + (1 : Int32))), (3, .int (x3 + (1 : Int32))), (0, zr G x0), (2, .int x2)] dX4_rankOf_62 3 rfl rfl (Nat.le_of_ble_eq_true rfl) rfl ?_
          refine z_goto F 18 dX4_rankOf_65 rfl ?_
          refine z_ls [(0, zr G x0), (2, .int x2), (3, .int (x3 + (1 : Int32))), (4, .int (x4 + (1 : Int32)))] [2, 3, 1, 0] rfl ?_
          exact ih x0 t0 x2 (x3 + (1 : Int32)) (x4 + (1 : Int32)) v_3 h

def fX4_rankOf (x0 : Nat) (x1 : Int32) (v : zV) : Option (Int32 × zV) :=
  zbind (fX2_scoreOf (zrf x0 1) (zrf x0 2) x1 v) fun r_2 v_1 =>
  fX4_rankOf_18  zFU x0 r_2 (0 : Int32) (0 : Int32) v_1
set_option maxRecDepth 4000 in
theorem kX4_rankOf (l : Launch) (G : zG) (x0 : Nat) (t0 : zty G x0 1 4) (x1 : Int32) (v : zV) (r : Int32) (w : zV) (h : fX4_rankOf x0 x1 v = some (r, w)) : zMet l yX4_rankOf cX4_rankOf 5 (Option.some FieldType.int) 4 148 0 0 [zr G x0, .int x1] G v (some (.int r)) w := by
  refine zM_of (own := RX4) (by decide) rfl (Nat.le_of_ble_eq_true rfl) (fun x hl F hr hk hcs => ?_)
  subst hl
  refine z_ls [(0, zr G x0), (1, .int x1)] [0, 1] rfl ?_
  unfold fX4_rankOf at h
  refine z_aload_n F dX4_rankOf_0 rfl 0 rfl ?_
  refine zg_4_1 F t0 wF_X4_36 dX4_rankOf_1 ?_
  refine z_aload_n F dX4_rankOf_4 rfl 0 rfl ?_
  refine zg_4_2 F t0 wF_X4_40 dX4_rankOf_5 ?_
  refine z_iload_n F dX4_rankOf_8 rfl 1 rfl ?_
  obtain ⟨r_2, v_1, hq9, h⟩ := zbind_ex h
  refine z_callVi F [zr G (zrf x0 2), .int x1] [] (kX2_scoreOf x.2.1 G (zrf x0 1) (zt_f tc_4_1 t0) (zrf x0 2) (zt_f tc_4_2 t0) x1 v r_2 v_1 hq9) mI_X2_scoreOf (c := 2) rfl (zt_f tc_4_1 t0) wM_X4_83 mi_X2_scoreOf sl_X2_scoreOf dX4_rankOf_9 rfl ⟨Nat.le_of_ble_eq_true rfl, Nat.le_of_ble_eq_true rfl⟩ rfl (Nat.le_of_ble_eq_true rfl) ⟨Nat.zero_le _, Nat.zero_le _⟩ ?_
  refine z_istore_n F [(2, .int r_2), (0, zr G x0), (1, .int x1)] dX4_rankOf_12 rfl (Nat.le_of_ble_eq_true rfl) rfl ?_
  refine z_iconst (y := (0 : Int32)) F dX4_rankOf_13 rfl ?_
  refine z_istore_n F [(3, .int (0 : Int32)), (2, .int r_2), (0, zr G x0), (1, .int x1)] dX4_rankOf_14 rfl (Nat.le_of_ble_eq_true rfl) rfl ?_
  refine z_iconst (y := (0 : Int32)) F dX4_rankOf_15 rfl ?_
  refine z_istore (n := 0) F [(4, .int (0 : Int32)), (3, .int (0 : Int32)), (2, .int r_2), (0, zr G x0), (1, .int x1)] dX4_rankOf_16 (Nat.le_of_ble_eq_true rfl) rfl ?_
  refine z_ls [(0, zr G x0), (2, .int r_2), (3, .int (0 : Int32)), (4, .int (0 : Int32))] [3, 2, 1, 0] rfl ?_
  exact jX4_rankOf_18 x G F hr hk r w   zFU x0 t0 r_2 (0 : Int32) (0 : Int32) v_1 h

theorem dX4_leadOfGreatest_0 : decode cX4_leadOfGreatest 0 = .ok (.iconst 0, 1) := by decide +kernel
theorem dX4_leadOfGreatest_1 : decode cX4_leadOfGreatest 1 = .ok (.istore_n 1, 1) := by decide +kernel
theorem dX4_leadOfGreatest_2 : decode cX4_leadOfGreatest 2 = .ok (.iconst 0, 1) := by decide +kernel
theorem dX4_leadOfGreatest_3 : decode cX4_leadOfGreatest 3 = .ok (.istore_n 2, 1) := by decide +kernel
theorem dX4_leadOfGreatest_4 : decode cX4_leadOfGreatest 4 = .ok (.iconst 0, 1) := by decide +kernel
theorem dX4_leadOfGreatest_5 : decode cX4_leadOfGreatest 5 = .ok (.istore_n 3, 1) := by decide +kernel
theorem dX4_leadOfGreatest_6 : decode cX4_leadOfGreatest 6 = .ok (.iconst 0, 1) := by decide +kernel
theorem dX4_leadOfGreatest_7 : decode cX4_leadOfGreatest 7 = .ok (.istore 4, 2) := by decide +kernel
theorem dX4_leadOfGreatest_9 : decode cX4_leadOfGreatest 9 = .ok (.iload 4, 2) := by decide +kernel
theorem dX4_leadOfGreatest_11 : decode cX4_leadOfGreatest 11 = .ok (.aload_n 0, 1) := by decide +kernel
theorem dX4_leadOfGreatest_12 : decode cX4_leadOfGreatest 12 = .ok (.getfield 32, 3) := by decide +kernel
theorem dX4_leadOfGreatest_15 : decode cX4_leadOfGreatest 15 = .ok (.getfield 78, 3) := by decide +kernel
theorem dX4_leadOfGreatest_18 : decode cX4_leadOfGreatest 18 = .ok (.if_icmp .ge 74, 3) := by decide +kernel
theorem dX4_leadOfGreatest_21 : decode cX4_leadOfGreatest 21 = .ok (.aload_n 0, 1) := by decide +kernel
theorem dX4_leadOfGreatest_22 : decode cX4_leadOfGreatest 22 = .ok (.getfield 40, 3) := by decide +kernel
theorem dX4_leadOfGreatest_25 : decode cX4_leadOfGreatest 25 = .ok (.iload 4, 2) := by decide +kernel
theorem dX4_leadOfGreatest_27 : decode cX4_leadOfGreatest 27 = .ok (.invokevirtual 86, 3) := by decide +kernel
theorem dX4_leadOfGreatest_30 : decode cX4_leadOfGreatest 30 = .ok (.ifCond .ne 6, 3) := by decide +kernel
theorem dX4_leadOfGreatest_33 : decode cX4_leadOfGreatest 33 = .ok (.goto 53, 3) := by decide +kernel
theorem dX4_leadOfGreatest_36 : decode cX4_leadOfGreatest 36 = .ok (.aload_n 0, 1) := by decide +kernel
theorem dX4_leadOfGreatest_37 : decode cX4_leadOfGreatest 37 = .ok (.getfield 36, 3) := by decide +kernel
theorem dX4_leadOfGreatest_40 : decode cX4_leadOfGreatest 40 = .ok (.aload_n 0, 1) := by decide +kernel
theorem dX4_leadOfGreatest_41 : decode cX4_leadOfGreatest 41 = .ok (.getfield 40, 3) := by decide +kernel
theorem dX4_leadOfGreatest_44 : decode cX4_leadOfGreatest 44 = .ok (.iload 4, 2) := by decide +kernel
theorem dX4_leadOfGreatest_46 : decode cX4_leadOfGreatest 46 = .ok (.invokevirtual 83, 3) := by decide +kernel
theorem dX4_leadOfGreatest_49 : decode cX4_leadOfGreatest 49 = .ok (.istore 5, 2) := by decide +kernel
theorem dX4_leadOfGreatest_51 : decode cX4_leadOfGreatest 51 = .ok (.iload_n 1, 1) := by decide +kernel
theorem dX4_leadOfGreatest_52 : decode cX4_leadOfGreatest 52 = .ok (.ifCond .eq 9, 3) := by decide +kernel
theorem dX4_leadOfGreatest_55 : decode cX4_leadOfGreatest 55 = .ok (.iload 5, 2) := by decide +kernel
theorem dX4_leadOfGreatest_57 : decode cX4_leadOfGreatest 57 = .ok (.iload_n 2, 1) := by decide +kernel
theorem dX4_leadOfGreatest_58 : decode cX4_leadOfGreatest 58 = .ok (.if_icmp .le 11, 3) := by decide +kernel
theorem dX4_leadOfGreatest_61 : decode cX4_leadOfGreatest 61 = .ok (.iload_n 2, 1) := by decide +kernel
theorem dX4_leadOfGreatest_62 : decode cX4_leadOfGreatest 62 = .ok (.istore_n 3, 1) := by decide +kernel
theorem dX4_leadOfGreatest_63 : decode cX4_leadOfGreatest 63 = .ok (.iload 5, 2) := by decide +kernel
theorem dX4_leadOfGreatest_65 : decode cX4_leadOfGreatest 65 = .ok (.istore_n 2, 1) := by decide +kernel
theorem dX4_leadOfGreatest_66 : decode cX4_leadOfGreatest 66 = .ok (.goto 17, 3) := by decide +kernel
theorem dX4_leadOfGreatest_69 : decode cX4_leadOfGreatest 69 = .ok (.iload_n 1, 1) := by decide +kernel
theorem dX4_leadOfGreatest_70 : decode cX4_leadOfGreatest 70 = .ok (.iconst 1, 1) := by decide +kernel
theorem dX4_leadOfGreatest_71 : decode cX4_leadOfGreatest 71 = .ok (.if_icmp .eq 9, 3) := by decide +kernel
theorem dX4_leadOfGreatest_74 : decode cX4_leadOfGreatest 74 = .ok (.iload 5, 2) := by decide +kernel
theorem dX4_leadOfGreatest_76 : decode cX4_leadOfGreatest 76 = .ok (.iload_n 3, 1) := by decide +kernel
theorem dX4_leadOfGreatest_77 : decode cX4_leadOfGreatest 77 = .ok (.if_icmp .le 6, 3) := by decide +kernel
theorem dX4_leadOfGreatest_80 : decode cX4_leadOfGreatest 80 = .ok (.iload 5, 2) := by decide +kernel
theorem dX4_leadOfGreatest_82 : decode cX4_leadOfGreatest 82 = .ok (.istore_n 3, 1) := by decide +kernel
theorem dX4_leadOfGreatest_83 : decode cX4_leadOfGreatest 83 = .ok (.iinc 1 1, 3) := by decide +kernel
theorem dX4_leadOfGreatest_86 : decode cX4_leadOfGreatest 86 = .ok (.iinc 4 1, 3) := by decide +kernel
theorem dX4_leadOfGreatest_89 : decode cX4_leadOfGreatest 89 = .ok (.goto (-80), 3) := by decide +kernel
theorem dX4_leadOfGreatest_92 : decode cX4_leadOfGreatest 92 = .ok (.iload_n 1, 1) := by decide +kernel
theorem dX4_leadOfGreatest_93 : decode cX4_leadOfGreatest 93 = .ok (.iconst 2, 1) := by decide +kernel
theorem dX4_leadOfGreatest_94 : decode cX4_leadOfGreatest 94 = .ok (.if_icmp .ge 7, 3) := by decide +kernel
theorem dX4_leadOfGreatest_97 : decode cX4_leadOfGreatest 97 = .ok (.iload_n 2, 1) := by decide +kernel
theorem dX4_leadOfGreatest_98 : decode cX4_leadOfGreatest 98 = .ok (.goto 6, 3) := by decide +kernel
theorem dX4_leadOfGreatest_101 : decode cX4_leadOfGreatest 101 = .ok (.iload_n 2, 1) := by decide +kernel
theorem dX4_leadOfGreatest_102 : decode cX4_leadOfGreatest 102 = .ok (.iload_n 3, 1) := by decide +kernel
theorem dX4_leadOfGreatest_103 : decode cX4_leadOfGreatest 103 = .ok (.isub, 1) := by decide +kernel
theorem dX4_leadOfGreatest_104 : decode cX4_leadOfGreatest 104 = .ok (.ireturn, 1) := by decide +kernel
def fX4_leadOfGreatest_9  : Nat → Nat → Int32 → Int32 → Int32 → Int32 → zV → Option (Int32 × zV)
  | 0 => fun _ _ _ _ _ _ => none
  | n + 1 => fun x0 x1 x2 x3 x4 v =>
    if (v (zrf x0 0) 1) ≤ x4 then
      if (2 : Int32) ≤ x1 then
        some (x2 - x3, v)
      else
        some (x2, v)
    else
      zbind (fX7_isWaiting (zrf x0 2) x4 v) fun r_2 v_1 =>
      if r_2 = (0 : Int32) then
        (fX4_leadOfGreatest_9 n) x0 x1 x2 x3 (x4 + (1 : Int32)) v_1
      else
        zbind (fX2_scoreOf (zrf x0 1) (zrf x0 2) x4 v_1) fun r_4 v_3 =>
        if x1 = (0 : Int32) then
          (fX4_leadOfGreatest_9 n) x0 (x1 + (1 : Int32)) r_4 x2 (x4 + (1 : Int32)) v_3
        else
          if r_4 ≤ x2 then
            if x1 = (1 : Int32) then
              (fX4_leadOfGreatest_9 n) x0 (x1 + (1 : Int32)) x2 r_4 (x4 + (1 : Int32)) v_3
            else
              if r_4 ≤ x3 then
                (fX4_leadOfGreatest_9 n) x0 (x1 + (1 : Int32)) x2 x3 (x4 + (1 : Int32)) v_3
              else
                (fX4_leadOfGreatest_9 n) x0 (x1 + (1 : Int32)) x2 r_4 (x4 + (1 : Int32)) v_3
          else
            (fX4_leadOfGreatest_9 n) x0 (x1 + (1 : Int32)) r_4 x2 (x4 + (1 : Int32)) v_3
set_option maxRecDepth 4000 in
theorem jX4_leadOfGreatest_9 (x : zCx) (G : zG) (F : zF x G cX4_leadOfGreatest 6 RX4 4 148) (hr : x.2.2.2.2.2.2.2.2.1.sig.returnType = (Option.some FieldType.int)) (hk : x.2.2.2.2.2.2.2.2.1.locks = false) (r : Int32) (w : zV)  : ∀ (n : Nat) (x0 : Nat) (t0 : zty G x0 1 4) (x1 : Int32) (x2 : Int32) (x3 : Int32) (x4 : Int32) (v : zV), fX4_leadOfGreatest_9 n x0 x1 x2 x3 x4 v = some (r, w) → zJ x G 6 (zQ x G (some (.int r)) w 0 0) 0 0 9 [(0, zr G x0), (1, .int x1), (2, .int x2), (3, .int x3), (4, .int x4)] [] v := by
  intro n
  induction n with
  | zero => intro x0 t0 x1 x2 x3 x4 v h; exact absurd h (by intro q; cases q)
  | succ n ih =>
    intro x0 t0 x1 x2 x3 x4 v h
    rw [fX4_leadOfGreatest_9] at h
    dsimp only at h
    refine z_iload F dX4_leadOfGreatest_9 4 rfl ?_
    refine z_aload_n F dX4_leadOfGreatest_11 rfl 0 rfl ?_
    refine zg_4_0 F t0 wF_X4_32 dX4_leadOfGreatest_12 ?_
    refine zg_0_1 F (zt_f tc_4_0 t0) wF_X4_78 dX4_leadOfGreatest_15 ?_
    refine z_icmp_ge F 92 dX4_leadOfGreatest_18 rfl (fun hc => ?_) (fun hc => ?_)
    · replace h := zif_t hc h
      refine z_iload_n F dX4_leadOfGreatest_92 rfl 1 rfl ?_
      refine z_iconst (y := (2 : Int32)) F dX4_leadOfGreatest_93 rfl ?_
      refine z_icmp_ge F 101 dX4_leadOfGreatest_94 rfl (fun hc => ?_) (fun hc => ?_)
      · replace h := zif_t hc h
        refine z_iload_n F dX4_leadOfGreatest_101 rfl 2 rfl ?_
        refine z_iload_n F dX4_leadOfGreatest_102 rfl 3 rfl ?_
        refine z_isub F dX4_leadOfGreatest_103 ?_
        cases h
        exact z_reti F hr hk dX4_leadOfGreatest_104
      · replace h := zif_f hc h
        refine z_iload_n F dX4_leadOfGreatest_97 rfl 2 rfl ?_
        refine z_goto F 104 dX4_leadOfGreatest_98 rfl ?_
        cases h
        exact z_reti F hr hk dX4_leadOfGreatest_104
    · replace h := zif_f hc h
      refine z_aload_n F dX4_leadOfGreatest_21 rfl 0 rfl ?_
      refine zg_4_2 F t0 wF_X4_40 dX4_leadOfGreatest_22 ?_
      refine z_iload F dX4_leadOfGreatest_25 4 rfl ?_
      obtain ⟨r_2, v_1, hq27, h⟩ := zbind_ex h
      refine z_callVi F [.int x4] [] (kX7_isWaiting x.2.1 G (zrf x0 2) (zt_f tc_4_2 t0) x4 v r_2 v_1 hq27) mI_X7_isWaiting (c := 7) rfl (zt_f tc_4_2 t0) wM_X4_86 mi_X7_isWaiting sl_X7_isWaiting dX4_leadOfGreatest_27 rfl ⟨Nat.le_of_ble_eq_true rfl, Nat.le_of_ble_eq_true rfl⟩ rfl (Nat.le_of_ble_eq_true rfl) ⟨Nat.zero_le _, Nat.zero_le _⟩ ?_
      refine z_if_ne F 36 dX4_leadOfGreatest_30 rfl (fun hc => ?_) (fun hc => ?_)
      · replace h := zif_f hc h
        refine z_aload_n F dX4_leadOfGreatest_36 rfl 0 rfl ?_
        refine zg_4_1 F t0 wF_X4_36 dX4_leadOfGreatest_37 ?_
        refine z_aload_n F dX4_leadOfGreatest_40 rfl 0 rfl ?_
        refine zg_4_2 F t0 wF_X4_40 dX4_leadOfGreatest_41 ?_
        refine z_iload F dX4_leadOfGreatest_44 4 rfl ?_
        obtain ⟨r_4, v_3, hq46, h⟩ := zbind_ex h
        refine z_callVi F [zr G (zrf x0 2), .int x4] [] (kX2_scoreOf x.2.1 G (zrf x0 1) (zt_f tc_4_1 t0) (zrf x0 2) (zt_f tc_4_2 t0) x4 v_1 r_4 v_3 hq46) mI_X2_scoreOf (c := 2) rfl (zt_f tc_4_1 t0) wM_X4_83 mi_X2_scoreOf sl_X2_scoreOf dX4_leadOfGreatest_46 rfl ⟨Nat.le_of_ble_eq_true rfl, Nat.le_of_ble_eq_true rfl⟩ rfl (Nat.le_of_ble_eq_true rfl) ⟨Nat.zero_le _, Nat.zero_le _⟩ ?_
        refine z_istore (n := 0) F [(5, .int r_4), (0, zr G x0), (1, .int x1), (2, .int x2), (3, .int x3), (4, .int x4)] dX4_leadOfGreatest_49 (Nat.le_of_ble_eq_true rfl) rfl ?_
        refine z_iload_n F dX4_leadOfGreatest_51 rfl 2 rfl ?_
        refine z_if_eq F 61 dX4_leadOfGreatest_52 rfl (fun hc => ?_) (fun hc => ?_)
        · replace h := zif_t hc h
          refine z_iload_n F dX4_leadOfGreatest_61 rfl 3 rfl ?_
          refine z_istore_n F [(3, .int x2), (5, .int r_4), (0, zr G x0), (1, .int x1), (2, .int x2), (4, .int x4)] dX4_leadOfGreatest_62 rfl (Nat.le_of_ble_eq_true rfl) rfl ?_
          refine z_iload F dX4_leadOfGreatest_63 1 rfl ?_
          refine z_istore_n F [(2, .int r_4), (3, .int x2), (5, .int r_4), (0, zr G x0), (1, .int x1), (4, .int x4)] dX4_leadOfGreatest_65 rfl (Nat.le_of_ble_eq_true rfl) rfl ?_
          refine z_goto F 83 dX4_leadOfGreatest_66 rfl ?_
          refine z_iinc F [(1, .int (x1 + (1 : Int32))), (2, .int r_4), (3, .int x2), (5, .int r_4), (0, zr G x0), (4, .int x4)] dX4_leadOfGreatest_83 4 rfl rfl (Nat.le_of_ble_eq_true rfl) rfl ?_
          refine z_iinc F [(4, .int (x4 + (1 : Int32))), (1, .int (x1 + (1 : Int32))), (2, .int r_4), (3, .int x2), (5, .int r_4), (0, zr G x0)] dX4_leadOfGreatest_86 5 rfl rfl (Nat.le_of_ble_eq_true rfl) rfl ?_
          refine z_goto F 9 dX4_leadOfGreatest_89 rfl ?_
          refine z_ls [(0, zr G x0), (1, .int (x1 + (1 : Int32))), (2, .int r_4), (3, .int x2), (4, .int (x4 + (1 : Int32)))] [5, 1, 2, 3, 0] rfl ?_
          exact ih x0 t0 (x1 + (1 : Int32)) r_4 x2 (x4 + (1 : Int32)) v_3 h
        · replace h := zif_f hc h
          refine z_iload F dX4_leadOfGreatest_55 0 rfl ?_
          refine z_iload_n F dX4_leadOfGreatest_57 rfl 3 rfl ?_
          refine z_icmp_le F 69 dX4_leadOfGreatest_58 rfl (fun hc => ?_) (fun hc => ?_)
          · replace h := zif_t hc h
            refine z_iload_n F dX4_leadOfGreatest_69 rfl 2 rfl ?_
            refine z_iconst (y := (1 : Int32)) F dX4_leadOfGreatest_70 rfl ?_
            refine z_icmp_eq F 80 dX4_leadOfGreatest_71 rfl (fun hc => ?_) (fun hc => ?_)
            · replace h := zif_t hc h
              refine z_iload F dX4_leadOfGreatest_80 0 rfl ?_
              refine z_istore_n F [(3, .int r_4), (5, .int r_4), (0, zr G x0), (1, .int x1), (2, .int x2), (4, .int x4)] dX4_leadOfGreatest_82 rfl (Nat.le_of_ble_eq_true rfl) rfl ?_
              refine z_iinc F [(1, .int (x1 + (1 : Int32))), (3, .int r_4), (5, .int r_4), (0, zr G x0), (2, .int x2), (4, .int x4)] dX4_leadOfGreatest_83 3 rfl rfl (Nat.le_of_ble_eq_true rfl) rfl ?_
              refine z_iinc F [(4, .int (x4 + (1 : Int32))), (1, .int (x1 + (1 : Int32))), (3, .int r_4), (5, .int r_4), (0, zr G x0), (2, .int x2)] dX4_leadOfGreatest_86 5 rfl rfl (Nat.le_of_ble_eq_true rfl) rfl ?_
              refine z_goto F 9 dX4_leadOfGreatest_89 rfl ?_
              refine z_ls [(0, zr G x0), (1, .int (x1 + (1 : Int32))), (2, .int x2), (3, .int r_4), (4, .int (x4 + (1 : Int32)))] [4, 1, 5, 2, 0] rfl ?_
              exact ih x0 t0 (x1 + (1 : Int32)) x2 r_4 (x4 + (1 : Int32)) v_3 h
            · replace h := zif_f hc h
              refine z_iload F dX4_leadOfGreatest_74 0 rfl ?_
              refine z_iload_n F dX4_leadOfGreatest_76 rfl 4 rfl ?_
              refine z_icmp_le F 83 dX4_leadOfGreatest_77 rfl (fun hc => ?_) (fun hc => ?_)
              · replace h := zif_t hc h
                refine z_iinc F [(1, .int (x1 + (1 : Int32))), (5, .int r_4), (0, zr G x0), (2, .int x2), (3, .int x3), (4, .int x4)] dX4_leadOfGreatest_83 2 rfl rfl (Nat.le_of_ble_eq_true rfl) rfl ?_
                refine z_iinc F [(4, .int (x4 + (1 : Int32))), (1, .int (x1 + (1 : Int32))), (5, .int r_4), (0, zr G x0), (2, .int x2), (3, .int x3)] dX4_leadOfGreatest_86 5 rfl rfl (Nat.le_of_ble_eq_true rfl) rfl ?_
                refine z_goto F 9 dX4_leadOfGreatest_89 rfl ?_
                refine z_ls [(0, zr G x0), (1, .int (x1 + (1 : Int32))), (2, .int x2), (3, .int x3), (4, .int (x4 + (1 : Int32)))] [3, 1, 4, 5, 0] rfl ?_
                exact ih x0 t0 (x1 + (1 : Int32)) x2 x3 (x4 + (1 : Int32)) v_3 h
              · replace h := zif_f hc h
                refine z_iload F dX4_leadOfGreatest_80 0 rfl ?_
                refine z_istore_n F [(3, .int r_4), (5, .int r_4), (0, zr G x0), (1, .int x1), (2, .int x2), (4, .int x4)] dX4_leadOfGreatest_82 rfl (Nat.le_of_ble_eq_true rfl) rfl ?_
                refine z_iinc F [(1, .int (x1 + (1 : Int32))), (3, .int r_4), (5, .int r_4), (0, zr G x0), (2, .int x2), (4, .int x4)] dX4_leadOfGreatest_83 3 rfl rfl (Nat.le_of_ble_eq_true rfl) rfl ?_
                refine z_iinc F [(4, .int (x4 + (1 : Int32))), (1, .int (x1 + (1 : Int32))), (3, .int r_4), (5, .int r_4), (0, zr G x0), (2, .int x2)] dX4_leadOfGreatest_86 5 rfl rfl (Nat.le_of_ble_eq_true rfl) rfl ?_
                refine z_goto F 9 dX4_leadOfGreatest_89 rfl ?_
                refine z_ls [(0, zr G x0), (1, .int (x1 + (1 : Int32))), (2, .int x2), (3, .int r_4), (4, .int (x4 + (1 : Int32)))] [4, 1, 5, 2, 0] rfl ?_
                exact ih x0 t0 (x1 + (1 : Int32)) x2 r_4 (x4 + (1 : Int32)) v_3 h
          · replace h := zif_f hc h
            refine z_iload_n F dX4_leadOfGreatest_61 rfl 3 rfl ?_
            refine z_istore_n F [(3, .int x2), (5, .int r_4), (0, zr G x0), (1, .int x1), (2, .int x2), (4, .int x4)] dX4_leadOfGreatest_62 rfl (Nat.le_of_ble_eq_true rfl) rfl ?_
            refine z_iload F dX4_leadOfGreatest_63 1 rfl ?_
            refine z_istore_n F [(2, .int r_4), (3, .int x2), (5, .int r_4), (0, zr G x0), (1, .int x1), (4, .int x4)] dX4_leadOfGreatest_65 rfl (Nat.le_of_ble_eq_true rfl) rfl ?_
            refine z_goto F 83 dX4_leadOfGreatest_66 rfl ?_
            refine z_iinc F [(1, .int (x1 + (1 : Int32))), (2, .int r_4), (3, .int x2), (5, .int r_4), (0, zr G x0), (4, .int x4)] dX4_leadOfGreatest_83 4 rfl rfl (Nat.le_of_ble_eq_true rfl) rfl ?_
            refine z_iinc F [(4, .int (x4 + (1 : Int32))), (1, .int (x1 + (1 : Int32))), (2, .int r_4), (3, .int x2), (5, .int r_4), (0, zr G x0)] dX4_leadOfGreatest_86 5 rfl rfl (Nat.le_of_ble_eq_true rfl) rfl ?_
            refine z_goto F 9 dX4_leadOfGreatest_89 rfl ?_
            refine z_ls [(0, zr G x0), (1, .int (x1 + (1 : Int32))), (2, .int r_4), (3, .int x2), (4, .int (x4 + (1 : Int32)))] [5, 1, 2, 3, 0] rfl ?_
            exact ih x0 t0 (x1 + (1 : Int32)) r_4 x2 (x4 + (1 : Int32)) v_3 h
      · replace h := zif_t hc h
        refine z_goto F 86 dX4_leadOfGreatest_33 rfl ?_
        refine z_iinc F [(4, .int (x4 + (1 : Int32))), (0, zr G x0), (1, .int x1), (2, .int x2), (3, .int x3)] dX4_leadOfGreatest_86 4 rfl rfl (Nat.le_of_ble_eq_true rfl) rfl ?_
        refine z_goto F 9 dX4_leadOfGreatest_89 rfl ?_
        refine z_ls [(0, zr G x0), (1, .int x1), (2, .int x2), (3, .int x3), (4, .int (x4 + (1 : Int32)))] [1, 2, 3, 4, 0] rfl ?_
        exact ih x0 t0 x1 x2 x3 (x4 + (1 : Int32)) v_1 h

def fX4_leadOfGreatest (x0 : Nat) (v : zV) : Option (Int32 × zV) :=
  fX4_leadOfGreatest_9  zFU x0 (0 : Int32) (0 : Int32) (0 : Int32) (0 : Int32) v
set_option maxRecDepth 4000 in
theorem kX4_leadOfGreatest (l : Launch) (G : zG) (x0 : Nat) (t0 : zty G x0 1 4) (v : zV) (r : Int32) (w : zV) (h : fX4_leadOfGreatest x0 v = some (r, w)) : zMet l yX4_leadOfGreatest cX4_leadOfGreatest 6 (Option.some FieldType.int) 4 148 0 0 [zr G x0] G v (some (.int r)) w := by
  refine zM_of (own := RX4) (by decide) rfl (Nat.le_of_ble_eq_true rfl) (fun x hl F hr hk hcs => ?_)
  subst hl
  refine z_ls [(0, zr G x0)] [0] rfl ?_
  unfold fX4_leadOfGreatest at h
  refine z_iconst (y := (0 : Int32)) F dX4_leadOfGreatest_0 rfl ?_
  refine z_istore_n F [(1, .int (0 : Int32)), (0, zr G x0)] dX4_leadOfGreatest_1 rfl (Nat.le_of_ble_eq_true rfl) rfl ?_
  refine z_iconst (y := (0 : Int32)) F dX4_leadOfGreatest_2 rfl ?_
  refine z_istore_n F [(2, .int (0 : Int32)), (1, .int (0 : Int32)), (0, zr G x0)] dX4_leadOfGreatest_3 rfl (Nat.le_of_ble_eq_true rfl) rfl ?_
  refine z_iconst (y := (0 : Int32)) F dX4_leadOfGreatest_4 rfl ?_
  refine z_istore_n F [(3, .int (0 : Int32)), (2, .int (0 : Int32)), (1, .int (0 : Int32)), (0, zr G x0)] dX4_leadOfGreatest_5 rfl (Nat.le_of_ble_eq_true rfl) rfl ?_
  refine z_iconst (y := (0 : Int32)) F dX4_leadOfGreatest_6 rfl ?_
  refine z_istore (n := 0) F [(4, .int (0 : Int32)), (3, .int (0 : Int32)), (2, .int (0 : Int32)), (1, .int (0 : Int32)), (0, zr G x0)] dX4_leadOfGreatest_7 (Nat.le_of_ble_eq_true rfl) rfl ?_
  refine z_ls [(0, zr G x0), (1, .int (0 : Int32)), (2, .int (0 : Int32)), (3, .int (0 : Int32)), (4, .int (0 : Int32))] [4, 3, 2, 1, 0] rfl ?_
  exact jX4_leadOfGreatest_9 x G F hr hk r w   zFU x0 t0 (0 : Int32) (0 : Int32) (0 : Int32) (0 : Int32) v h

theorem dX4_scoreThisYear_0 : decode cX4_scoreThisYear 0 = .ok (.aload_n 0, 1) := by decide +kernel
theorem dX4_scoreThisYear_1 : decode cX4_scoreThisYear 1 = .ok (.getfield 12, 3) := by decide +kernel
theorem dX4_scoreThisYear_4 : decode cX4_scoreThisYear 4 = .ok (.aload_n 0, 1) := by decide +kernel
theorem dX4_scoreThisYear_5 : decode cX4_scoreThisYear 5 = .ok (.getfield 40, 3) := by decide +kernel
theorem dX4_scoreThisYear_8 : decode cX4_scoreThisYear 8 = .ok (.invokevirtual 43, 3) := by decide +kernel
theorem dX4_scoreThisYear_11 : decode cX4_scoreThisYear 11 = .ok (.aload_n 0, 1) := by decide +kernel
theorem dX4_scoreThisYear_12 : decode cX4_scoreThisYear 12 = .ok (.getfield 36, 3) := by decide +kernel
theorem dX4_scoreThisYear_15 : decode cX4_scoreThisYear 15 = .ok (.aload_n 0, 1) := by decide +kernel
theorem dX4_scoreThisYear_16 : decode cX4_scoreThisYear 16 = .ok (.getfield 12, 3) := by decide +kernel
theorem dX4_scoreThisYear_19 : decode cX4_scoreThisYear 19 = .ok (.invokevirtual 90, 3) := by decide +kernel
theorem dX4_scoreThisYear_22 : decode cX4_scoreThisYear 22 = .ok (.aload_n 0, 1) := by decide +kernel
theorem dX4_scoreThisYear_23 : decode cX4_scoreThisYear 23 = .ok (.getfield 36, 3) := by decide +kernel
theorem dX4_scoreThisYear_26 : decode cX4_scoreThisYear 26 = .ok (.aload_n 0, 1) := by decide +kernel
theorem dX4_scoreThisYear_27 : decode cX4_scoreThisYear 27 = .ok (.getfield 12, 3) := by decide +kernel
theorem dX4_scoreThisYear_30 : decode cX4_scoreThisYear 30 = .ok (.invokevirtual 93, 3) := by decide +kernel
theorem dX4_scoreThisYear_33 : decode cX4_scoreThisYear 33 = .ok (.return_, 1) := by decide +kernel
def fX4_scoreThisYear (x0 : Nat) (v : zV) : Option zV :=
  zbindv (fX7_copy (zrf x0 3) (zrf x0 2) v) fun v_1 =>
  zbindv (fX2_tellDeaths (zrf x0 1) (zrf x0 3) v_1) fun v_2 =>
  zbindv (fX2_scoreAll (zrf x0 1) (zrf x0 3) v_2) fun v_3 =>
  some v_3
set_option maxRecDepth 4000 in
theorem kX4_scoreThisYear (l : Launch) (G : zG) (x0 : Nat) (t0 : zty G x0 1 4) (v : zV) (w : zV) (h : fX4_scoreThisYear x0 v = some w) : zMet l yX4_scoreThisYear cX4_scoreThisYear 1 (Option.none : Option FieldType) 6 192 0 0 [zr G x0] G v none w := by
  refine zM_of (own := RX4) (by decide) rfl (Nat.le_of_ble_eq_true rfl) (fun x hl F hr hk hcs => ?_)
  subst hl
  refine z_ls [(0, zr G x0)] [0] rfl ?_
  unfold fX4_scoreThisYear at h
  refine z_aload_n F dX4_scoreThisYear_0 rfl 0 rfl ?_
  refine zg_4_3 F t0 wF_X4_12 dX4_scoreThisYear_1 ?_
  refine z_aload_n F dX4_scoreThisYear_4 rfl 0 rfl ?_
  refine zg_4_2 F t0 wF_X4_40 dX4_scoreThisYear_5 ?_
  obtain ⟨v_1, hq8, h⟩ := zbindv_ex h
  refine z_callVv F [zr G (zrf x0 2)] [] (kX7_copy x.2.1 G (zrf x0 3) (zt_f tc_4_3 t0) (zrf x0 2) (zt_f tc_4_2 t0) v v_1 hq8) mI_X7_copy (c := 7) rfl (zt_f tc_4_3 t0) wM_X4_43 mi_X7_copy sl_X7_copy dX4_scoreThisYear_8 rfl ⟨Nat.le_of_ble_eq_true rfl, Nat.le_of_ble_eq_true rfl⟩ rfl (Nat.le_of_ble_eq_true rfl) ⟨Nat.zero_le _, Nat.zero_le _⟩ ?_
  refine z_aload_n F dX4_scoreThisYear_11 rfl 0 rfl ?_
  refine zg_4_1 F t0 wF_X4_36 dX4_scoreThisYear_12 ?_
  refine z_aload_n F dX4_scoreThisYear_15 rfl 0 rfl ?_
  refine zg_4_3 F t0 wF_X4_12 dX4_scoreThisYear_16 ?_
  obtain ⟨v_2, hq19, h⟩ := zbindv_ex h
  refine z_callVv F [zr G (zrf x0 3)] [] (kX2_tellDeaths x.2.1 G (zrf x0 1) (zt_f tc_4_1 t0) (zrf x0 3) (zt_f tc_4_3 t0) v_1 v_2 hq19) mI_X2_tellDeaths (c := 2) rfl (zt_f tc_4_1 t0) wM_X4_90 mi_X2_tellDeaths sl_X2_tellDeaths dX4_scoreThisYear_19 rfl ⟨Nat.le_of_ble_eq_true rfl, Nat.le_of_ble_eq_true rfl⟩ rfl (Nat.le_of_ble_eq_true rfl) ⟨Nat.zero_le _, Nat.zero_le _⟩ ?_
  refine z_aload_n F dX4_scoreThisYear_22 rfl 0 rfl ?_
  refine zg_4_1 F t0 wF_X4_36 dX4_scoreThisYear_23 ?_
  refine z_aload_n F dX4_scoreThisYear_26 rfl 0 rfl ?_
  refine zg_4_3 F t0 wF_X4_12 dX4_scoreThisYear_27 ?_
  obtain ⟨v_3, hq30, h⟩ := zbindv_ex h
  refine z_callVv F [zr G (zrf x0 3)] [] (kX2_scoreAll x.2.1 G (zrf x0 1) (zt_f tc_4_1 t0) (zrf x0 3) (zt_f tc_4_3 t0) v_2 v_3 hq30) mI_X2_scoreAll (c := 2) rfl (zt_f tc_4_1 t0) wM_X4_93 mi_X2_scoreAll sl_X2_scoreAll dX4_scoreThisYear_30 rfl ⟨Nat.le_of_ble_eq_true rfl, Nat.le_of_ble_eq_true rfl⟩ rfl (Nat.le_of_ble_eq_true rfl) ⟨Nat.zero_le _, Nat.zero_le _⟩ ?_
  cases h
  exact z_retv F hr hk dX4_scoreThisYear_33

theorem dX4_raise_0 : decode cX4_raise 0 = .ok (.aload_n 0, 1) := by decide +kernel
theorem dX4_raise_1 : decode cX4_raise 1 = .ok (.getfield 36, 3) := by decide +kernel
theorem dX4_raise_4 : decode cX4_raise 4 = .ok (.getfield 96, 3) := by decide +kernel
theorem dX4_raise_7 : decode cX4_raise 7 = .ok (.iload_n 1, 1) := by decide +kernel
theorem dX4_raise_8 : decode cX4_raise 8 = .ok (.aload_n 0, 1) := by decide +kernel
theorem dX4_raise_9 : decode cX4_raise 9 = .ok (.getfield 36, 3) := by decide +kernel
theorem dX4_raise_12 : decode cX4_raise 12 = .ok (.getfield 96, 3) := by decide +kernel
theorem dX4_raise_15 : decode cX4_raise 15 = .ok (.iload_n 1, 1) := by decide +kernel
theorem dX4_raise_16 : decode cX4_raise 16 = .ok (.invokestatic 70, 3) := by decide +kernel
theorem dX4_raise_19 : decode cX4_raise 19 = .ok (.iload_n 2, 1) := by decide +kernel
theorem dX4_raise_20 : decode cX4_raise 20 = .ok (.iadd, 1) := by decide +kernel
theorem dX4_raise_21 : decode cX4_raise 21 = .ok (.invokestatic 99, 3) := by decide +kernel
theorem dX4_raise_24 : decode cX4_raise 24 = .ok (.return_, 1) := by decide +kernel
def fX4_raise (x0 : Nat) (x1 : Int32) (x2 : Int32) (v : zV) : Option zV :=
  zbind (fX9_get (zrf (zrf x0 1) 2) x1 v) fun r_2 v_1 =>
  zbindv (fX9_set (zrf (zrf x0 1) 2) x1 (r_2 + x2) v_1) fun v_3 =>
  some v_3
set_option maxRecDepth 4000 in
theorem kX4_raise (l : Launch) (G : zG) (x0 : Nat) (t0 : zty G x0 1 4) (x1 : Int32) (x2 : Int32) (v : zV) (w : zV) (h : fX4_raise x0 x1 x2 v = some w) : zMet l yX4_raise cX4_raise 3 (Option.none : Option FieldType) 2 102 0 0 [zr G x0, .int x1, .int x2] G v none w := by
  refine zM_of (own := RX4) (by decide) rfl (Nat.le_of_ble_eq_true rfl) (fun x hl F hr hk hcs => ?_)
  subst hl
  refine z_ls [(0, zr G x0), (1, .int x1), (2, .int x2)] [0, 1, 2] rfl ?_
  unfold fX4_raise at h
  refine z_aload_n F dX4_raise_0 rfl 0 rfl ?_
  refine zg_4_1 F t0 wF_X4_36 dX4_raise_1 ?_
  refine zg_2_2 F (zt_f tc_4_1 t0) wF_X4_96 dX4_raise_4 ?_
  refine z_iload_n F dX4_raise_7 rfl 1 rfl ?_
  refine z_aload_n F dX4_raise_8 rfl 0 rfl ?_
  refine zg_4_1 F t0 wF_X4_36 dX4_raise_9 ?_
  refine zg_2_2 F (zt_f tc_4_1 t0) wF_X4_96 dX4_raise_12 ?_
  refine z_iload_n F dX4_raise_15 rfl 1 rfl ?_
  obtain ⟨r_2, v_1, hq16, h⟩ := zbind_ex h
  refine z_callSNi F [zr G (zrf (zrf x0 1) 2), .int x1] [.int x1, zr G (zrf (zrf x0 1) 2)] (kX9_get x.2.1 G (zrf (zrf x0 1) 2) (zt_f tc_2_2 (zt_f tc_4_1 t0)) x1 v r_2 v_1 hq16) mI_X9_get wN_X4_70 ms_X9_get dX4_raise_16 rfl ⟨Nat.le_of_ble_eq_true rfl, Nat.le_of_ble_eq_true rfl⟩ rfl (Nat.le_of_ble_eq_true rfl) ⟨Nat.zero_le _, Nat.zero_le _⟩ ?_
  refine z_iload_n F dX4_raise_19 rfl 2 rfl ?_
  refine z_iadd F dX4_raise_20 ?_
  obtain ⟨v_3, hq21, h⟩ := zbindv_ex h
  refine z_callSNv F [zr G (zrf (zrf x0 1) 2), .int x1, .int (r_2 + x2)] [] (kX9_set x.2.1 G (zrf (zrf x0 1) 2) (zt_f tc_2_2 (zt_f tc_4_1 t0)) x1 (r_2 + x2) v_1 v_3 hq21) mI_X9_set wN_X4_99 ms_X9_set dX4_raise_21 rfl ⟨Nat.le_of_ble_eq_true rfl, Nat.le_of_ble_eq_true rfl⟩ rfl (Nat.le_of_ble_eq_true rfl) ⟨Nat.zero_le _, Nat.zero_le _⟩ ?_
  cases h
  exact z_retv F hr hk dX4_raise_24

theorem dX4_praiseWanted_0 : decode cX4_praiseWanted 0 = .ok (.aload_n 0, 1) := by decide +kernel
theorem dX4_praiseWanted_1 : decode cX4_praiseWanted 1 = .ok (.getfield 40, 3) := by decide +kernel
theorem dX4_praiseWanted_4 : decode cX4_praiseWanted 4 = .ok (.iload_n 1, 1) := by decide +kernel
theorem dX4_praiseWanted_5 : decode cX4_praiseWanted 5 = .ok (.invokevirtual 86, 3) := by decide +kernel
theorem dX4_praiseWanted_8 : decode cX4_praiseWanted 8 = .ok (.ifCond .ne 5, 3) := by decide +kernel
theorem dX4_praiseWanted_11 : decode cX4_praiseWanted 11 = .ok (.iconst (-1), 1) := by decide +kernel
theorem dX4_praiseWanted_12 : decode cX4_praiseWanted 12 = .ok (.ireturn, 1) := by decide +kernel
theorem dX4_praiseWanted_13 : decode cX4_praiseWanted 13 = .ok (.aload_n 0, 1) := by decide +kernel
theorem dX4_praiseWanted_14 : decode cX4_praiseWanted 14 = .ok (.invokevirtual 103, 3) := by decide +kernel
theorem dX4_praiseWanted_17 : decode cX4_praiseWanted 17 = .ok (.iconst 0, 1) := by decide +kernel
theorem dX4_praiseWanted_18 : decode cX4_praiseWanted 18 = .ok (.istore_n 2, 1) := by decide +kernel
theorem dX4_praiseWanted_19 : decode cX4_praiseWanted 19 = .ok (.iload_n 2, 1) := by decide +kernel
theorem dX4_praiseWanted_20 : decode cX4_praiseWanted 20 = .ok (.bipush 99, 2) := by decide +kernel
theorem dX4_praiseWanted_22 : decode cX4_praiseWanted 22 = .ok (.if_icmp .gt 32, 3) := by decide +kernel
theorem dX4_praiseWanted_25 : decode cX4_praiseWanted 25 = .ok (.aload_n 0, 1) := by decide +kernel
theorem dX4_praiseWanted_26 : decode cX4_praiseWanted 26 = .ok (.getfield 36, 3) := by decide +kernel
theorem dX4_praiseWanted_29 : decode cX4_praiseWanted 29 = .ok (.aload_n 0, 1) := by decide +kernel
theorem dX4_praiseWanted_30 : decode cX4_praiseWanted 30 = .ok (.getfield 12, 3) := by decide +kernel
theorem dX4_praiseWanted_33 : decode cX4_praiseWanted 33 = .ok (.invokevirtual 106, 3) := by decide +kernel
theorem dX4_praiseWanted_36 : decode cX4_praiseWanted 36 = .ok (.iload_n 1, 1) := by decide +kernel
theorem dX4_praiseWanted_37 : decode cX4_praiseWanted 37 = .ok (.if_icmp .ne 5, 3) := by decide +kernel
theorem dX4_praiseWanted_40 : decode cX4_praiseWanted 40 = .ok (.iload_n 2, 1) := by decide +kernel
theorem dX4_praiseWanted_41 : decode cX4_praiseWanted 41 = .ok (.ireturn, 1) := by decide +kernel
theorem dX4_praiseWanted_42 : decode cX4_praiseWanted 42 = .ok (.aload_n 0, 1) := by decide +kernel
theorem dX4_praiseWanted_43 : decode cX4_praiseWanted 43 = .ok (.iload_n 1, 1) := by decide +kernel
theorem dX4_praiseWanted_44 : decode cX4_praiseWanted 44 = .ok (.iconst 1, 1) := by decide +kernel
theorem dX4_praiseWanted_45 : decode cX4_praiseWanted 45 = .ok (.invokevirtual 109, 3) := by decide +kernel
theorem dX4_praiseWanted_48 : decode cX4_praiseWanted 48 = .ok (.iinc 2 1, 3) := by decide +kernel
theorem dX4_praiseWanted_51 : decode cX4_praiseWanted 51 = .ok (.goto (-32), 3) := by decide +kernel
theorem dX4_praiseWanted_54 : decode cX4_praiseWanted 54 = .ok (.iconst (-1), 1) := by decide +kernel
theorem dX4_praiseWanted_55 : decode cX4_praiseWanted 55 = .ok (.ireturn, 1) := by decide +kernel
def fX4_praiseWanted_19  : Nat → Nat → Int32 → Int32 → zV → Option (Int32 × zV)
  | 0 => fun _ _ _ _ => none
  | n + 1 => fun x0 x1 x2 v =>
    if (99 : Int32) < x2 then
      some ((-1 : Int32), v)
    else
      zbind (fX2_choose (zrf x0 1) (zrf x0 3) v) fun r_2 v_1 =>
      if r_2 = x1 then
        some (x2, v_1)
      else
        zbindv (fX4_raise x0 x1 (1 : Int32) v_1) fun v_3 =>
        (fX4_praiseWanted_19 n) x0 x1 (x2 + (1 : Int32)) v_3
set_option maxRecDepth 4000 in
theorem jX4_praiseWanted_19 (x : zCx) (G : zG) (F : zF x G cX4_praiseWanted 3 RX4 7 212) (hr : x.2.2.2.2.2.2.2.2.1.sig.returnType = (Option.some FieldType.int)) (hk : x.2.2.2.2.2.2.2.2.1.locks = false) (r : Int32) (w : zV)  : ∀ (n : Nat) (x0 : Nat) (t0 : zty G x0 1 4) (x1 : Int32) (x2 : Int32) (v : zV), fX4_praiseWanted_19 n x0 x1 x2 v = some (r, w) → zJ x G 3 (zQ x G (some (.int r)) w 0 0) 0 0 19 [(0, zr G x0), (1, .int x1), (2, .int x2)] [] v := by
  intro n
  induction n with
  | zero => intro x0 t0 x1 x2 v h; exact absurd h (by intro q; cases q)
  | succ n ih =>
    intro x0 t0 x1 x2 v h
    rw [fX4_praiseWanted_19] at h
    dsimp only at h
    refine z_iload_n F dX4_praiseWanted_19 rfl 2 rfl ?_
    refine z_bipush (y := (99 : Int32)) F dX4_praiseWanted_20 rfl ?_
    refine z_icmp_gt F 54 dX4_praiseWanted_22 rfl (fun hc => ?_) (fun hc => ?_)
    · replace h := zif_t hc h
      refine z_iconst (y := (-1 : Int32)) F dX4_praiseWanted_54 rfl ?_
      cases h
      exact z_reti F hr hk dX4_praiseWanted_55
    · replace h := zif_f hc h
      refine z_aload_n F dX4_praiseWanted_25 rfl 0 rfl ?_
      refine zg_4_1 F t0 wF_X4_36 dX4_praiseWanted_26 ?_
      refine z_aload_n F dX4_praiseWanted_29 rfl 0 rfl ?_
      refine zg_4_3 F t0 wF_X4_12 dX4_praiseWanted_30 ?_
      obtain ⟨r_2, v_1, hq33, h⟩ := zbind_ex h
      refine z_callVi F [zr G (zrf x0 3)] [] (kX2_choose x.2.1 G (zrf x0 1) (zt_f tc_4_1 t0) (zrf x0 3) (zt_f tc_4_3 t0) v r_2 v_1 hq33) mI_X2_choose (c := 2) rfl (zt_f tc_4_1 t0) wM_X4_106 mi_X2_choose sl_X2_choose dX4_praiseWanted_33 rfl ⟨Nat.le_of_ble_eq_true rfl, Nat.le_of_ble_eq_true rfl⟩ rfl (Nat.le_of_ble_eq_true rfl) ⟨Nat.zero_le _, Nat.zero_le _⟩ ?_
      refine z_iload_n F dX4_praiseWanted_36 rfl 1 rfl ?_
      refine z_icmp_ne F 42 dX4_praiseWanted_37 rfl (fun hc => ?_) (fun hc => ?_)
      · replace h := zif_f hc h
        refine z_aload_n F dX4_praiseWanted_42 rfl 0 rfl ?_
        refine z_iload_n F dX4_praiseWanted_43 rfl 1 rfl ?_
        refine z_iconst (y := (1 : Int32)) F dX4_praiseWanted_44 rfl ?_
        obtain ⟨v_3, hq45, h⟩ := zbindv_ex h
        refine z_callVv F [.int x1, .int (1 : Int32)] [] (kX4_raise x.2.1 G x0 t0 x1 (1 : Int32) v_1 v_3 hq45) mI_X4_raise (c := 4) rfl t0 wM_X4_109 mi_X4_raise sl_X4_raise dX4_praiseWanted_45 rfl ⟨Nat.le_of_ble_eq_true rfl, Nat.le_of_ble_eq_true rfl⟩ rfl (Nat.le_of_ble_eq_true rfl) ⟨Nat.zero_le _, Nat.zero_le _⟩ ?_
        refine z_iinc F [(2, .int (x2 + (1 : Int32))), (0, zr G x0), (1, .int x1)] dX4_praiseWanted_48 2 rfl rfl (Nat.le_of_ble_eq_true rfl) rfl ?_
        refine z_goto F 19 dX4_praiseWanted_51 rfl ?_
        refine z_ls [(0, zr G x0), (1, .int x1), (2, .int (x2 + (1 : Int32)))] [1, 2, 0] rfl ?_
        exact ih x0 t0 x1 (x2 + (1 : Int32)) v_3 h
      · replace h := zif_t hc h
        refine z_iload_n F dX4_praiseWanted_40 rfl 2 rfl ?_
        cases h
        exact z_reti F hr hk dX4_praiseWanted_41

def fX4_praiseWanted (x0 : Nat) (x1 : Int32) (v : zV) : Option (Int32 × zV) :=
  zbind (fX7_isWaiting (zrf x0 2) x1 v) fun r_2 v_1 =>
  if r_2 = (0 : Int32) then
    some ((-1 : Int32), v_1)
  else
    zbindv (fX4_scoreThisYear x0 v_1) fun v_3 =>
    fX4_praiseWanted_19  zFU x0 x1 (0 : Int32) v_3
set_option maxRecDepth 4000 in
theorem kX4_praiseWanted (l : Launch) (G : zG) (x0 : Nat) (t0 : zty G x0 1 4) (x1 : Int32) (v : zV) (r : Int32) (w : zV) (h : fX4_praiseWanted x0 x1 v = some (r, w)) : zMet l yX4_praiseWanted cX4_praiseWanted 3 (Option.some FieldType.int) 7 212 0 0 [zr G x0, .int x1] G v (some (.int r)) w := by
  refine zM_of (own := RX4) (by decide) rfl (Nat.le_of_ble_eq_true rfl) (fun x hl F hr hk hcs => ?_)
  subst hl
  refine z_ls [(0, zr G x0), (1, .int x1)] [0, 1] rfl ?_
  unfold fX4_praiseWanted at h
  refine z_aload_n F dX4_praiseWanted_0 rfl 0 rfl ?_
  refine zg_4_2 F t0 wF_X4_40 dX4_praiseWanted_1 ?_
  refine z_iload_n F dX4_praiseWanted_4 rfl 1 rfl ?_
  obtain ⟨r_2, v_1, hq5, h⟩ := zbind_ex h
  refine z_callVi F [.int x1] [] (kX7_isWaiting x.2.1 G (zrf x0 2) (zt_f tc_4_2 t0) x1 v r_2 v_1 hq5) mI_X7_isWaiting (c := 7) rfl (zt_f tc_4_2 t0) wM_X4_86 mi_X7_isWaiting sl_X7_isWaiting dX4_praiseWanted_5 rfl ⟨Nat.le_of_ble_eq_true rfl, Nat.le_of_ble_eq_true rfl⟩ rfl (Nat.le_of_ble_eq_true rfl) ⟨Nat.zero_le _, Nat.zero_le _⟩ ?_
  refine z_if_ne F 13 dX4_praiseWanted_8 rfl (fun hc => ?_) (fun hc => ?_)
  · replace h := zif_f hc h
    refine z_aload_n F dX4_praiseWanted_13 rfl 0 rfl ?_
    obtain ⟨v_3, hq14, h⟩ := zbindv_ex h
    refine z_callVv F [] [] (kX4_scoreThisYear x.2.1 G x0 t0 v_1 v_3 hq14) mI_X4_scoreThisYear (c := 4) rfl t0 wM_X4_103 mi_X4_scoreThisYear sl_X4_scoreThisYear dX4_praiseWanted_14 rfl ⟨Nat.le_of_ble_eq_true rfl, Nat.le_of_ble_eq_true rfl⟩ rfl (Nat.le_of_ble_eq_true rfl) ⟨Nat.zero_le _, Nat.zero_le _⟩ ?_
    refine z_iconst (y := (0 : Int32)) F dX4_praiseWanted_17 rfl ?_
    refine z_istore_n F [(2, .int (0 : Int32)), (0, zr G x0), (1, .int x1)] dX4_praiseWanted_18 rfl (Nat.le_of_ble_eq_true rfl) rfl ?_
    refine z_ls [(0, zr G x0), (1, .int x1), (2, .int (0 : Int32))] [1, 2, 0] rfl ?_
    exact jX4_praiseWanted_19 x G F hr hk r w   zFU x0 t0 x1 (0 : Int32) v_3 h
  · replace h := zif_t hc h
    refine z_iconst (y := (-1 : Int32)) F dX4_praiseWanted_11 rfl ?_
    cases h
    exact z_reti F hr hk dX4_praiseWanted_12

theorem dX4_isOpen_0 : decode cX4_isOpen 0 = .ok (.iload_n 1, 1) := by decide +kernel
theorem dX4_isOpen_1 : decode cX4_isOpen 1 = .ok (.ifCond .eq 27, 3) := by decide +kernel
theorem dX4_isOpen_4 : decode cX4_isOpen 4 = .ok (.iload_n 1, 1) := by decide +kernel
theorem dX4_isOpen_5 : decode cX4_isOpen 5 = .ok (.aload_n 0, 1) := by decide +kernel
theorem dX4_isOpen_6 : decode cX4_isOpen 6 = .ok (.getfield 32, 3) := by decide +kernel
theorem dX4_isOpen_9 : decode cX4_isOpen 9 = .ok (.getfield 78, 3) := by decide +kernel
theorem dX4_isOpen_12 : decode cX4_isOpen 12 = .ok (.if_icmp .gt 20, 3) := by decide +kernel
theorem dX4_isOpen_15 : decode cX4_isOpen 15 = .ok (.aload_n 0, 1) := by decide +kernel
theorem dX4_isOpen_16 : decode cX4_isOpen 16 = .ok (.getfield 40, 3) := by decide +kernel
theorem dX4_isOpen_19 : decode cX4_isOpen 19 = .ok (.iload_n 1, 1) := by decide +kernel
theorem dX4_isOpen_20 : decode cX4_isOpen 20 = .ok (.iconst 1, 1) := by decide +kernel
theorem dX4_isOpen_21 : decode cX4_isOpen 21 = .ok (.isub, 1) := by decide +kernel
theorem dX4_isOpen_22 : decode cX4_isOpen 22 = .ok (.invokevirtual 86, 3) := by decide +kernel
theorem dX4_isOpen_25 : decode cX4_isOpen 25 = .ok (.ifCond .eq 7, 3) := by decide +kernel
theorem dX4_isOpen_28 : decode cX4_isOpen 28 = .ok (.iconst 1, 1) := by decide +kernel
theorem dX4_isOpen_29 : decode cX4_isOpen 29 = .ok (.goto 4, 3) := by decide +kernel
theorem dX4_isOpen_32 : decode cX4_isOpen 32 = .ok (.iconst 0, 1) := by decide +kernel
theorem dX4_isOpen_33 : decode cX4_isOpen 33 = .ok (.ireturn, 1) := by decide +kernel
def fX4_isOpen (x0 : Nat) (x1 : Int32) (v : zV) : Option (Int32 × zV) :=
  if x1 = (0 : Int32) then
    some ((1 : Int32), v)
  else
    if (v (zrf x0 0) 1) < x1 then
      some ((0 : Int32), v)
    else
      zbind (fX7_isWaiting (zrf x0 2) (x1 - (1 : Int32)) v) fun r_2 v_1 =>
      if r_2 = (0 : Int32) then
        some ((0 : Int32), v_1)
      else
        some ((1 : Int32), v_1)
set_option maxRecDepth 4000 in
theorem kX4_isOpen (l : Launch) (G : zG) (x0 : Nat) (t0 : zty G x0 1 4) (x1 : Int32) (v : zV) (r : Int32) (w : zV) (h : fX4_isOpen x0 x1 v = some (r, w)) : zMet l yX4_isOpen cX4_isOpen 2 (Option.some FieldType.boolean) 3 122 0 0 [zr G x0, .int x1] G v (some (.int r)) w := by
  refine zM_of (own := RX4) (by decide) rfl (Nat.le_of_ble_eq_true rfl) (fun x hl F hr hk hcs => ?_)
  subst hl
  refine z_ls [(0, zr G x0), (1, .int x1)] [0, 1] rfl ?_
  unfold fX4_isOpen at h
  refine z_iload_n F dX4_isOpen_0 rfl 1 rfl ?_
  refine z_if_eq F 28 dX4_isOpen_1 rfl (fun hc => ?_) (fun hc => ?_)
  · replace h := zif_t hc h
    refine z_iconst (y := (1 : Int32)) F dX4_isOpen_28 rfl ?_
    refine z_goto F 33 dX4_isOpen_29 rfl ?_
    cases h
    exact z_retz F hr hk rfl dX4_isOpen_33
  · replace h := zif_f hc h
    refine z_iload_n F dX4_isOpen_4 rfl 1 rfl ?_
    refine z_aload_n F dX4_isOpen_5 rfl 0 rfl ?_
    refine zg_4_0 F t0 wF_X4_32 dX4_isOpen_6 ?_
    refine zg_0_1 F (zt_f tc_4_0 t0) wF_X4_78 dX4_isOpen_9 ?_
    refine z_icmp_gt F 32 dX4_isOpen_12 rfl (fun hc => ?_) (fun hc => ?_)
    · replace h := zif_t hc h
      refine z_iconst (y := (0 : Int32)) F dX4_isOpen_32 rfl ?_
      cases h
      exact z_retz F hr hk rfl dX4_isOpen_33
    · replace h := zif_f hc h
      refine z_aload_n F dX4_isOpen_15 rfl 0 rfl ?_
      refine zg_4_2 F t0 wF_X4_40 dX4_isOpen_16 ?_
      refine z_iload_n F dX4_isOpen_19 rfl 1 rfl ?_
      refine z_iconst (y := (1 : Int32)) F dX4_isOpen_20 rfl ?_
      refine z_isub F dX4_isOpen_21 ?_
      obtain ⟨r_2, v_1, hq22, h⟩ := zbind_ex h
      refine z_callVi F [.int (x1 - (1 : Int32))] [] (kX7_isWaiting x.2.1 G (zrf x0 2) (zt_f tc_4_2 t0) (x1 - (1 : Int32)) v r_2 v_1 hq22) mI_X7_isWaiting (c := 7) rfl (zt_f tc_4_2 t0) wM_X4_86 mi_X7_isWaiting sl_X7_isWaiting dX4_isOpen_22 rfl ⟨Nat.le_of_ble_eq_true rfl, Nat.le_of_ble_eq_true rfl⟩ rfl (Nat.le_of_ble_eq_true rfl) ⟨Nat.zero_le _, Nat.zero_le _⟩ ?_
      refine z_if_eq F 32 dX4_isOpen_25 rfl (fun hc => ?_) (fun hc => ?_)
      · replace h := zif_t hc h
        refine z_iconst (y := (0 : Int32)) F dX4_isOpen_32 rfl ?_
        cases h
        exact z_retz F hr hk rfl dX4_isOpen_33
      · replace h := zif_f hc h
        refine z_iconst (y := (1 : Int32)) F dX4_isOpen_28 rfl ?_
        refine z_goto F 33 dX4_isOpen_29 rfl ?_
        cases h
        exact z_retz F hr hk rfl dX4_isOpen_33

theorem dX4_isQuiet_0 : decode cX4_isQuiet 0 = .ok (.aload_n 0, 1) := by decide +kernel
theorem dX4_isQuiet_1 : decode cX4_isQuiet 1 = .ok (.getfield 22, 3) := by decide +kernel
theorem dX4_isQuiet_4 : decode cX4_isQuiet 4 = .ok (.iload_n 1, 1) := by decide +kernel
theorem dX4_isQuiet_5 : decode cX4_isQuiet 5 = .ok (.bipush 17, 2) := by decide +kernel
theorem dX4_isQuiet_7 : decode cX4_isQuiet 7 = .ok (.imul, 1) := by decide +kernel
theorem dX4_isQuiet_8 : decode cX4_isQuiet 8 = .ok (.iload_n 2, 1) := by decide +kernel
theorem dX4_isQuiet_9 : decode cX4_isQuiet 9 = .ok (.iadd, 1) := by decide +kernel
theorem dX4_isQuiet_10 : decode cX4_isQuiet 10 = .ok (.invokestatic 70, 3) := by decide +kernel
theorem dX4_isQuiet_13 : decode cX4_isQuiet 13 = .ok (.istore 5, 2) := by decide +kernel
theorem dX4_isQuiet_15 : decode cX4_isQuiet 15 = .ok (.iconst 0, 1) := by decide +kernel
theorem dX4_isQuiet_16 : decode cX4_isQuiet 16 = .ok (.istore 6, 2) := by decide +kernel
theorem dX4_isQuiet_18 : decode cX4_isQuiet 18 = .ok (.iload 6, 2) := by decide +kernel
theorem dX4_isQuiet_20 : decode cX4_isQuiet 20 = .ok (.bipush 17, 2) := by decide +kernel
theorem dX4_isQuiet_22 : decode cX4_isQuiet 22 = .ok (.if_icmp .ge 75, 3) := by decide +kernel
theorem dX4_isQuiet_25 : decode cX4_isQuiet 25 = .ok (.aload_n 0, 1) := by decide +kernel
theorem dX4_isQuiet_26 : decode cX4_isQuiet 26 = .ok (.iload 6, 2) := by decide +kernel
theorem dX4_isQuiet_28 : decode cX4_isQuiet 28 = .ok (.invokevirtual 113, 3) := by decide +kernel
theorem dX4_isQuiet_31 : decode cX4_isQuiet 31 = .ok (.ifCond .ne 6, 3) := by decide +kernel
theorem dX4_isQuiet_34 : decode cX4_isQuiet 34 = .ok (.goto 57, 3) := by decide +kernel
theorem dX4_isQuiet_37 : decode cX4_isQuiet 37 = .ok (.iload 5, 2) := by decide +kernel
theorem dX4_isQuiet_39 : decode cX4_isQuiet 39 = .ok (.iload_n 3, 1) := by decide +kernel
theorem dX4_isQuiet_40 : decode cX4_isQuiet 40 = .ok (.if_icmp .eq 23, 3) := by decide +kernel
theorem dX4_isQuiet_43 : decode cX4_isQuiet 43 = .ok (.aload_n 0, 1) := by decide +kernel
theorem dX4_isQuiet_44 : decode cX4_isQuiet 44 = .ok (.getfield 22, 3) := by decide +kernel
theorem dX4_isQuiet_47 : decode cX4_isQuiet 47 = .ok (.iload 6, 2) := by decide +kernel
theorem dX4_isQuiet_49 : decode cX4_isQuiet 49 = .ok (.bipush 17, 2) := by decide +kernel
theorem dX4_isQuiet_51 : decode cX4_isQuiet 51 = .ok (.imul, 1) := by decide +kernel
theorem dX4_isQuiet_52 : decode cX4_isQuiet 52 = .ok (.iload_n 2, 1) := by decide +kernel
theorem dX4_isQuiet_53 : decode cX4_isQuiet 53 = .ok (.iadd, 1) := by decide +kernel
theorem dX4_isQuiet_54 : decode cX4_isQuiet 54 = .ok (.invokestatic 70, 3) := by decide +kernel
theorem dX4_isQuiet_57 : decode cX4_isQuiet 57 = .ok (.iload_n 3, 1) := by decide +kernel
theorem dX4_isQuiet_58 : decode cX4_isQuiet 58 = .ok (.if_icmp .ne 5, 3) := by decide +kernel
theorem dX4_isQuiet_61 : decode cX4_isQuiet 61 = .ok (.iconst 0, 1) := by decide +kernel
theorem dX4_isQuiet_62 : decode cX4_isQuiet 62 = .ok (.ireturn, 1) := by decide +kernel
theorem dX4_isQuiet_63 : decode cX4_isQuiet 63 = .ok (.iload 5, 2) := by decide +kernel
theorem dX4_isQuiet_65 : decode cX4_isQuiet 65 = .ok (.iload 4, 2) := by decide +kernel
theorem dX4_isQuiet_67 : decode cX4_isQuiet 67 = .ok (.if_icmp .eq 24, 3) := by decide +kernel
theorem dX4_isQuiet_70 : decode cX4_isQuiet 70 = .ok (.aload_n 0, 1) := by decide +kernel
theorem dX4_isQuiet_71 : decode cX4_isQuiet 71 = .ok (.getfield 22, 3) := by decide +kernel
theorem dX4_isQuiet_74 : decode cX4_isQuiet 74 = .ok (.iload_n 1, 1) := by decide +kernel
theorem dX4_isQuiet_75 : decode cX4_isQuiet 75 = .ok (.bipush 17, 2) := by decide +kernel
theorem dX4_isQuiet_77 : decode cX4_isQuiet 77 = .ok (.imul, 1) := by decide +kernel
theorem dX4_isQuiet_78 : decode cX4_isQuiet 78 = .ok (.iload 6, 2) := by decide +kernel
theorem dX4_isQuiet_80 : decode cX4_isQuiet 80 = .ok (.iadd, 1) := by decide +kernel
theorem dX4_isQuiet_81 : decode cX4_isQuiet 81 = .ok (.invokestatic 70, 3) := by decide +kernel
theorem dX4_isQuiet_84 : decode cX4_isQuiet 84 = .ok (.iload 4, 2) := by decide +kernel
theorem dX4_isQuiet_86 : decode cX4_isQuiet 86 = .ok (.if_icmp .ne 5, 3) := by decide +kernel
theorem dX4_isQuiet_89 : decode cX4_isQuiet 89 = .ok (.iconst 0, 1) := by decide +kernel
theorem dX4_isQuiet_90 : decode cX4_isQuiet 90 = .ok (.ireturn, 1) := by decide +kernel
theorem dX4_isQuiet_91 : decode cX4_isQuiet 91 = .ok (.iinc 6 1, 3) := by decide +kernel
theorem dX4_isQuiet_94 : decode cX4_isQuiet 94 = .ok (.goto (-76), 3) := by decide +kernel
theorem dX4_isQuiet_97 : decode cX4_isQuiet 97 = .ok (.iconst 1, 1) := by decide +kernel
theorem dX4_isQuiet_98 : decode cX4_isQuiet 98 = .ok (.ireturn, 1) := by decide +kernel
def fX4_isQuiet_63 (K18 : Nat → Int32 → Int32 → Int32 → Int32 → Int32 → Int32 → zV → Option (Int32 × zV)) (x0 : Nat) (x1 : Int32) (x2 : Int32) (x3 : Int32) (x4 : Int32) (x5 : Int32) (x6 : Int32) (v : zV) : Option (Int32 × zV) :=
  if x5 = x4 then
    K18 x0 x1 x2 x3 x4 x5 (x6 + (1 : Int32)) v
  else
    zbind (fX9_get (zrf x0 5) ((x1 * (17 : Int32)) + x6) v) fun r_2 v_1 =>
    if r_2 = x4 then
      some ((0 : Int32), v_1)
    else
      K18 x0 x1 x2 x3 x4 x5 (x6 + (1 : Int32)) v_1
set_option maxRecDepth 4000 in
theorem jX4_isQuiet_63 (x : zCx) (G : zG) (F : zF x G cX4_isQuiet 7 RX4 4 143) (hr : x.2.2.2.2.2.2.2.2.1.sig.returnType = (Option.some FieldType.boolean)) (hk : x.2.2.2.2.2.2.2.2.1.locks = false) (r : Int32) (w : zV) (K18 : Nat → Int32 → Int32 → Int32 → Int32 → Int32 → Int32 → zV → Option (Int32 × zV)) (hK18 : ∀ (x0 : Nat) (t0 : zty G x0 1 4) (x1 : Int32) (x2 : Int32) (x3 : Int32) (x4 : Int32) (x5 : Int32) (x6 : Int32) (v : zV), K18 x0 x1 x2 x3 x4 x5 x6 v = some (r, w) → zJ x G 7 (zQ x G (some (.int r)) w 0 0) 0 0 18 [(0, zr G x0), (1, .int x1), (2, .int x2), (3, .int x3), (4, .int x4), (5, .int x5), (6, .int x6)] [] v) : ∀ (x0 : Nat) (t0 : zty G x0 1 4) (x1 : Int32) (x2 : Int32) (x3 : Int32) (x4 : Int32) (x5 : Int32) (x6 : Int32) (v : zV), fX4_isQuiet_63 K18 x0 x1 x2 x3 x4 x5 x6 v = some (r, w) → zJ x G 7 (zQ x G (some (.int r)) w 0 0) 0 0 63 [(0, zr G x0), (1, .int x1), (2, .int x2), (3, .int x3), (4, .int x4), (5, .int x5), (6, .int x6)] [] v := by
  intro x0 t0 x1 x2 x3 x4 x5 x6 v h
  unfold fX4_isQuiet_63 at h
  refine z_iload F dX4_isQuiet_63 5 rfl ?_
  refine z_iload F dX4_isQuiet_65 4 rfl ?_
  refine z_icmp_eq F 91 dX4_isQuiet_67 rfl (fun hc => ?_) (fun hc => ?_)
  · replace h := zif_t hc h
    refine z_iinc F [(6, .int (x6 + (1 : Int32))), (0, zr G x0), (1, .int x1), (2, .int x2), (3, .int x3), (4, .int x4), (5, .int x5)] dX4_isQuiet_91 6 rfl rfl (Nat.le_of_ble_eq_true rfl) rfl ?_
    refine z_goto F 18 dX4_isQuiet_94 rfl ?_
    refine z_ls [(0, zr G x0), (1, .int x1), (2, .int x2), (3, .int x3), (4, .int x4), (5, .int x5), (6, .int (x6 + (1 : Int32)))] [1, 2, 3, 4, 5, 6, 0] rfl ?_
    exact hK18 x0 t0 x1 x2 x3 x4 x5 (x6 + (1 : Int32)) v h
  · replace h := zif_f hc h
    refine z_aload_n F dX4_isQuiet_70 rfl 0 rfl ?_
    refine zg_4_5 F t0 wF_X4_22 dX4_isQuiet_71 ?_
    refine z_iload_n F dX4_isQuiet_74 rfl 1 rfl ?_
    refine z_bipush (y := (17 : Int32)) F dX4_isQuiet_75 rfl ?_
    refine z_imul F dX4_isQuiet_77 ?_
    refine z_iload F dX4_isQuiet_78 6 rfl ?_
    refine z_iadd F dX4_isQuiet_80 ?_
    obtain ⟨r_2, v_1, hq81, h⟩ := zbind_ex h
    refine z_callSNi F [zr G (zrf x0 5), .int ((x1 * (17 : Int32)) + x6)] [] (kX9_get x.2.1 G (zrf x0 5) (zt_f tc_4_5 t0) ((x1 * (17 : Int32)) + x6) v r_2 v_1 hq81) mI_X9_get wN_X4_70 ms_X9_get dX4_isQuiet_81 rfl ⟨Nat.le_of_ble_eq_true rfl, Nat.le_of_ble_eq_true rfl⟩ rfl (Nat.le_of_ble_eq_true rfl) ⟨Nat.zero_le _, Nat.zero_le _⟩ ?_
    refine z_iload F dX4_isQuiet_84 4 rfl ?_
    refine z_icmp_ne F 91 dX4_isQuiet_86 rfl (fun hc => ?_) (fun hc => ?_)
    · replace h := zif_f hc h
      refine z_iinc F [(6, .int (x6 + (1 : Int32))), (0, zr G x0), (1, .int x1), (2, .int x2), (3, .int x3), (4, .int x4), (5, .int x5)] dX4_isQuiet_91 6 rfl rfl (Nat.le_of_ble_eq_true rfl) rfl ?_
      refine z_goto F 18 dX4_isQuiet_94 rfl ?_
      refine z_ls [(0, zr G x0), (1, .int x1), (2, .int x2), (3, .int x3), (4, .int x4), (5, .int x5), (6, .int (x6 + (1 : Int32)))] [1, 2, 3, 4, 5, 6, 0] rfl ?_
      exact hK18 x0 t0 x1 x2 x3 x4 x5 (x6 + (1 : Int32)) v_1 h
    · replace h := zif_t hc h
      refine z_iconst (y := (0 : Int32)) F dX4_isQuiet_89 rfl ?_
      cases h
      exact z_retz F hr hk rfl dX4_isQuiet_90

def fX4_isQuiet_18  : Nat → Nat → Int32 → Int32 → Int32 → Int32 → Int32 → Int32 → zV → Option (Int32 × zV)
  | 0 => fun _ _ _ _ _ _ _ _ => none
  | n + 1 => fun x0 x1 x2 x3 x4 x5 x6 v =>
    if (17 : Int32) ≤ x6 then
      some ((1 : Int32), v)
    else
      zbind (fX4_isOpen x0 x6 v) fun r_2 v_1 =>
      if r_2 = (0 : Int32) then
        (fX4_isQuiet_18 n) x0 x1 x2 x3 x4 x5 (x6 + (1 : Int32)) v_1
      else
        if x5 = x3 then
          fX4_isQuiet_63 (fX4_isQuiet_18 n) x0 x1 x2 x3 x4 x5 x6 v_1
        else
          zbind (fX9_get (zrf x0 5) ((x6 * (17 : Int32)) + x2) v_1) fun r_4 v_3 =>
          if r_4 = x3 then
            some ((0 : Int32), v_3)
          else
            fX4_isQuiet_63 (fX4_isQuiet_18 n) x0 x1 x2 x3 x4 x5 x6 v_3
set_option maxRecDepth 4000 in
theorem jX4_isQuiet_18 (x : zCx) (G : zG) (F : zF x G cX4_isQuiet 7 RX4 4 143) (hr : x.2.2.2.2.2.2.2.2.1.sig.returnType = (Option.some FieldType.boolean)) (hk : x.2.2.2.2.2.2.2.2.1.locks = false) (r : Int32) (w : zV)  : ∀ (n : Nat) (x0 : Nat) (t0 : zty G x0 1 4) (x1 : Int32) (x2 : Int32) (x3 : Int32) (x4 : Int32) (x5 : Int32) (x6 : Int32) (v : zV), fX4_isQuiet_18 n x0 x1 x2 x3 x4 x5 x6 v = some (r, w) → zJ x G 7 (zQ x G (some (.int r)) w 0 0) 0 0 18 [(0, zr G x0), (1, .int x1), (2, .int x2), (3, .int x3), (4, .int x4), (5, .int x5), (6, .int x6)] [] v := by
  intro n
  induction n with
  | zero => intro x0 t0 x1 x2 x3 x4 x5 x6 v h; exact absurd h (by intro q; cases q)
  | succ n ih =>
    intro x0 t0 x1 x2 x3 x4 x5 x6 v h
    rw [fX4_isQuiet_18] at h
    dsimp only at h
    refine z_iload F dX4_isQuiet_18 6 rfl ?_
    refine z_bipush (y := (17 : Int32)) F dX4_isQuiet_20 rfl ?_
    refine z_icmp_ge F 97 dX4_isQuiet_22 rfl (fun hc => ?_) (fun hc => ?_)
    · replace h := zif_t hc h
      refine z_iconst (y := (1 : Int32)) F dX4_isQuiet_97 rfl ?_
      cases h
      exact z_retz F hr hk rfl dX4_isQuiet_98
    · replace h := zif_f hc h
      refine z_aload_n F dX4_isQuiet_25 rfl 0 rfl ?_
      refine z_iload F dX4_isQuiet_26 6 rfl ?_
      obtain ⟨r_2, v_1, hq28, h⟩ := zbind_ex h
      refine z_callVi F [.int x6] [] (kX4_isOpen x.2.1 G x0 t0 x6 v r_2 v_1 hq28) mI_X4_isOpen (c := 4) rfl t0 wM_X4_113 mi_X4_isOpen sl_X4_isOpen dX4_isQuiet_28 rfl ⟨Nat.le_of_ble_eq_true rfl, Nat.le_of_ble_eq_true rfl⟩ rfl (Nat.le_of_ble_eq_true rfl) ⟨Nat.zero_le _, Nat.zero_le _⟩ ?_
      refine z_if_ne F 37 dX4_isQuiet_31 rfl (fun hc => ?_) (fun hc => ?_)
      · replace h := zif_f hc h
        refine z_iload F dX4_isQuiet_37 5 rfl ?_
        refine z_iload_n F dX4_isQuiet_39 rfl 3 rfl ?_
        refine z_icmp_eq F 63 dX4_isQuiet_40 rfl (fun hc => ?_) (fun hc => ?_)
        · replace h := zif_t hc h
          refine z_ls [(0, zr G x0), (1, .int x1), (2, .int x2), (3, .int x3), (4, .int x4), (5, .int x5), (6, .int x6)] [0, 1, 2, 3, 4, 5, 6] rfl ?_
          exact jX4_isQuiet_63 x G F hr hk r w (fX4_isQuiet_18 n) ih x0 t0 x1 x2 x3 x4 x5 x6 v_1 h
        · replace h := zif_f hc h
          refine z_aload_n F dX4_isQuiet_43 rfl 0 rfl ?_
          refine zg_4_5 F t0 wF_X4_22 dX4_isQuiet_44 ?_
          refine z_iload F dX4_isQuiet_47 6 rfl ?_
          refine z_bipush (y := (17 : Int32)) F dX4_isQuiet_49 rfl ?_
          refine z_imul F dX4_isQuiet_51 ?_
          refine z_iload_n F dX4_isQuiet_52 rfl 2 rfl ?_
          refine z_iadd F dX4_isQuiet_53 ?_
          obtain ⟨r_4, v_3, hq54, h⟩ := zbind_ex h
          refine z_callSNi F [zr G (zrf x0 5), .int ((x6 * (17 : Int32)) + x2)] [] (kX9_get x.2.1 G (zrf x0 5) (zt_f tc_4_5 t0) ((x6 * (17 : Int32)) + x2) v_1 r_4 v_3 hq54) mI_X9_get wN_X4_70 ms_X9_get dX4_isQuiet_54 rfl ⟨Nat.le_of_ble_eq_true rfl, Nat.le_of_ble_eq_true rfl⟩ rfl (Nat.le_of_ble_eq_true rfl) ⟨Nat.zero_le _, Nat.zero_le _⟩ ?_
          refine z_iload_n F dX4_isQuiet_57 rfl 3 rfl ?_
          refine z_icmp_ne F 63 dX4_isQuiet_58 rfl (fun hc => ?_) (fun hc => ?_)
          · replace h := zif_f hc h
            refine z_ls [(0, zr G x0), (1, .int x1), (2, .int x2), (3, .int x3), (4, .int x4), (5, .int x5), (6, .int x6)] [0, 1, 2, 3, 4, 5, 6] rfl ?_
            exact jX4_isQuiet_63 x G F hr hk r w (fX4_isQuiet_18 n) ih x0 t0 x1 x2 x3 x4 x5 x6 v_3 h
          · replace h := zif_t hc h
            refine z_iconst (y := (0 : Int32)) F dX4_isQuiet_61 rfl ?_
            cases h
            exact z_retz F hr hk rfl dX4_isQuiet_62
      · replace h := zif_t hc h
        refine z_goto F 91 dX4_isQuiet_34 rfl ?_
        refine z_iinc F [(6, .int (x6 + (1 : Int32))), (0, zr G x0), (1, .int x1), (2, .int x2), (3, .int x3), (4, .int x4), (5, .int x5)] dX4_isQuiet_91 6 rfl rfl (Nat.le_of_ble_eq_true rfl) rfl ?_
        refine z_goto F 18 dX4_isQuiet_94 rfl ?_
        refine z_ls [(0, zr G x0), (1, .int x1), (2, .int x2), (3, .int x3), (4, .int x4), (5, .int x5), (6, .int (x6 + (1 : Int32)))] [1, 2, 3, 4, 5, 6, 0] rfl ?_
        exact ih x0 t0 x1 x2 x3 x4 x5 (x6 + (1 : Int32)) v_1 h

def fX4_isQuiet (x0 : Nat) (x1 : Int32) (x2 : Int32) (x3 : Int32) (x4 : Int32) (v : zV) : Option (Int32 × zV) :=
  zbind (fX9_get (zrf x0 5) ((x1 * (17 : Int32)) + x2) v) fun r_2 v_1 =>
  fX4_isQuiet_18  zFU x0 x1 x2 x3 x4 r_2 (0 : Int32) v_1
set_option maxRecDepth 4000 in
theorem kX4_isQuiet (l : Launch) (G : zG) (x0 : Nat) (t0 : zty G x0 1 4) (x1 : Int32) (x2 : Int32) (x3 : Int32) (x4 : Int32) (v : zV) (r : Int32) (w : zV) (h : fX4_isQuiet x0 x1 x2 x3 x4 v = some (r, w)) : zMet l yX4_isQuiet cX4_isQuiet 7 (Option.some FieldType.boolean) 4 143 0 0 [zr G x0, .int x1, .int x2, .int x3, .int x4] G v (some (.int r)) w := by
  refine zM_of (own := RX4) (by decide) rfl (Nat.le_of_ble_eq_true rfl) (fun x hl F hr hk hcs => ?_)
  subst hl
  refine z_ls [(0, zr G x0), (1, .int x1), (2, .int x2), (3, .int x3), (4, .int x4)] [0, 1, 2, 3, 4] rfl ?_
  unfold fX4_isQuiet at h
  refine z_aload_n F dX4_isQuiet_0 rfl 0 rfl ?_
  refine zg_4_5 F t0 wF_X4_22 dX4_isQuiet_1 ?_
  refine z_iload_n F dX4_isQuiet_4 rfl 1 rfl ?_
  refine z_bipush (y := (17 : Int32)) F dX4_isQuiet_5 rfl ?_
  refine z_imul F dX4_isQuiet_7 ?_
  refine z_iload_n F dX4_isQuiet_8 rfl 2 rfl ?_
  refine z_iadd F dX4_isQuiet_9 ?_
  obtain ⟨r_2, v_1, hq10, h⟩ := zbind_ex h
  refine z_callSNi F [zr G (zrf x0 5), .int ((x1 * (17 : Int32)) + x2)] [] (kX9_get x.2.1 G (zrf x0 5) (zt_f tc_4_5 t0) ((x1 * (17 : Int32)) + x2) v r_2 v_1 hq10) mI_X9_get wN_X4_70 ms_X9_get dX4_isQuiet_10 rfl ⟨Nat.le_of_ble_eq_true rfl, Nat.le_of_ble_eq_true rfl⟩ rfl (Nat.le_of_ble_eq_true rfl) ⟨Nat.zero_le _, Nat.zero_le _⟩ ?_
  refine z_istore (n := 0) F [(5, .int r_2), (0, zr G x0), (1, .int x1), (2, .int x2), (3, .int x3), (4, .int x4)] dX4_isQuiet_13 (Nat.le_of_ble_eq_true rfl) rfl ?_
  refine z_iconst (y := (0 : Int32)) F dX4_isQuiet_15 rfl ?_
  refine z_istore (n := 0) F [(6, .int (0 : Int32)), (5, .int r_2), (0, zr G x0), (1, .int x1), (2, .int x2), (3, .int x3), (4, .int x4)] dX4_isQuiet_16 (Nat.le_of_ble_eq_true rfl) rfl ?_
  refine z_ls [(0, zr G x0), (1, .int x1), (2, .int x2), (3, .int x3), (4, .int x4), (5, .int r_2), (6, .int (0 : Int32))] [2, 3, 4, 5, 6, 1, 0] rfl ?_
  exact jX4_isQuiet_18 x G F hr hk r w   zFU x0 t0 x1 x2 x3 x4 r_2 (0 : Int32) v_1 h

theorem dX4_quietPairs_0 : decode cX4_quietPairs 0 = .ok (.aload_n 0, 1) := by decide +kernel
theorem dX4_quietPairs_1 : decode cX4_quietPairs 1 = .ok (.invokevirtual 103, 3) := by decide +kernel
theorem dX4_quietPairs_4 : decode cX4_quietPairs 4 = .ok (.iconst 0, 1) := by decide +kernel
theorem dX4_quietPairs_5 : decode cX4_quietPairs 5 = .ok (.istore 5, 2) := by decide +kernel
theorem dX4_quietPairs_7 : decode cX4_quietPairs 7 = .ok (.iload 5, 2) := by decide +kernel
theorem dX4_quietPairs_9 : decode cX4_quietPairs 9 = .ok (.bipush 17, 2) := by decide +kernel
theorem dX4_quietPairs_11 : decode cX4_quietPairs 11 = .ok (.if_icmp .ge 89, 3) := by decide +kernel
theorem dX4_quietPairs_14 : decode cX4_quietPairs 14 = .ok (.iconst 0, 1) := by decide +kernel
theorem dX4_quietPairs_15 : decode cX4_quietPairs 15 = .ok (.istore 6, 2) := by decide +kernel
theorem dX4_quietPairs_17 : decode cX4_quietPairs 17 = .ok (.iload 6, 2) := by decide +kernel
theorem dX4_quietPairs_19 : decode cX4_quietPairs 19 = .ok (.bipush 17, 2) := by decide +kernel
theorem dX4_quietPairs_21 : decode cX4_quietPairs 21 = .ok (.if_icmp .ge 73, 3) := by decide +kernel
theorem dX4_quietPairs_24 : decode cX4_quietPairs 24 = .ok (.aload_n 0, 1) := by decide +kernel
theorem dX4_quietPairs_25 : decode cX4_quietPairs 25 = .ok (.iload 5, 2) := by decide +kernel
theorem dX4_quietPairs_27 : decode cX4_quietPairs 27 = .ok (.iconst 1, 1) := by decide +kernel
theorem dX4_quietPairs_28 : decode cX4_quietPairs 28 = .ok (.isub, 1) := by decide +kernel
theorem dX4_quietPairs_29 : decode cX4_quietPairs 29 = .ok (.iload_n 3, 1) := by decide +kernel
theorem dX4_quietPairs_30 : decode cX4_quietPairs 30 = .ok (.invokevirtual 109, 3) := by decide +kernel
theorem dX4_quietPairs_33 : decode cX4_quietPairs 33 = .ok (.aload_n 0, 1) := by decide +kernel
theorem dX4_quietPairs_34 : decode cX4_quietPairs 34 = .ok (.iload 6, 2) := by decide +kernel
theorem dX4_quietPairs_36 : decode cX4_quietPairs 36 = .ok (.iconst 1, 1) := by decide +kernel
theorem dX4_quietPairs_37 : decode cX4_quietPairs 37 = .ok (.isub, 1) := by decide +kernel
theorem dX4_quietPairs_38 : decode cX4_quietPairs 38 = .ok (.iload_n 3, 1) := by decide +kernel
theorem dX4_quietPairs_39 : decode cX4_quietPairs 39 = .ok (.invokevirtual 109, 3) := by decide +kernel
theorem dX4_quietPairs_42 : decode cX4_quietPairs 42 = .ok (.aload_n 0, 1) := by decide +kernel
theorem dX4_quietPairs_43 : decode cX4_quietPairs 43 = .ok (.getfield 22, 3) := by decide +kernel
theorem dX4_quietPairs_46 : decode cX4_quietPairs 46 = .ok (.iload 5, 2) := by decide +kernel
theorem dX4_quietPairs_48 : decode cX4_quietPairs 48 = .ok (.bipush 17, 2) := by decide +kernel
theorem dX4_quietPairs_50 : decode cX4_quietPairs 50 = .ok (.imul, 1) := by decide +kernel
theorem dX4_quietPairs_51 : decode cX4_quietPairs 51 = .ok (.iload 6, 2) := by decide +kernel
theorem dX4_quietPairs_53 : decode cX4_quietPairs 53 = .ok (.iadd, 1) := by decide +kernel
theorem dX4_quietPairs_54 : decode cX4_quietPairs 54 = .ok (.aload_n 0, 1) := by decide +kernel
theorem dX4_quietPairs_55 : decode cX4_quietPairs 55 = .ok (.getfield 36, 3) := by decide +kernel
theorem dX4_quietPairs_58 : decode cX4_quietPairs 58 = .ok (.aload_n 0, 1) := by decide +kernel
theorem dX4_quietPairs_59 : decode cX4_quietPairs 59 = .ok (.getfield 12, 3) := by decide +kernel
theorem dX4_quietPairs_62 : decode cX4_quietPairs 62 = .ok (.invokevirtual 106, 3) := by decide +kernel
theorem dX4_quietPairs_65 : decode cX4_quietPairs 65 = .ok (.invokestatic 99, 3) := by decide +kernel
theorem dX4_quietPairs_68 : decode cX4_quietPairs 68 = .ok (.aload_n 0, 1) := by decide +kernel
theorem dX4_quietPairs_69 : decode cX4_quietPairs 69 = .ok (.iload 5, 2) := by decide +kernel
theorem dX4_quietPairs_71 : decode cX4_quietPairs 71 = .ok (.iconst 1, 1) := by decide +kernel
theorem dX4_quietPairs_72 : decode cX4_quietPairs 72 = .ok (.isub, 1) := by decide +kernel
theorem dX4_quietPairs_73 : decode cX4_quietPairs 73 = .ok (.iload_n 3, 1) := by decide +kernel
theorem dX4_quietPairs_74 : decode cX4_quietPairs 74 = .ok (.ineg, 1) := by decide +kernel
theorem dX4_quietPairs_75 : decode cX4_quietPairs 75 = .ok (.invokevirtual 109, 3) := by decide +kernel
theorem dX4_quietPairs_78 : decode cX4_quietPairs 78 = .ok (.aload_n 0, 1) := by decide +kernel
theorem dX4_quietPairs_79 : decode cX4_quietPairs 79 = .ok (.iload 6, 2) := by decide +kernel
theorem dX4_quietPairs_81 : decode cX4_quietPairs 81 = .ok (.iconst 1, 1) := by decide +kernel
theorem dX4_quietPairs_82 : decode cX4_quietPairs 82 = .ok (.isub, 1) := by decide +kernel
theorem dX4_quietPairs_83 : decode cX4_quietPairs 83 = .ok (.iload_n 3, 1) := by decide +kernel
theorem dX4_quietPairs_84 : decode cX4_quietPairs 84 = .ok (.ineg, 1) := by decide +kernel
theorem dX4_quietPairs_85 : decode cX4_quietPairs 85 = .ok (.invokevirtual 109, 3) := by decide +kernel
theorem dX4_quietPairs_88 : decode cX4_quietPairs 88 = .ok (.iinc 6 1, 3) := by decide +kernel
theorem dX4_quietPairs_91 : decode cX4_quietPairs 91 = .ok (.goto (-74), 3) := by decide +kernel
theorem dX4_quietPairs_94 : decode cX4_quietPairs 94 = .ok (.iinc 5 1, 3) := by decide +kernel
theorem dX4_quietPairs_97 : decode cX4_quietPairs 97 = .ok (.goto (-90), 3) := by decide +kernel
theorem dX4_quietPairs_100 : decode cX4_quietPairs 100 = .ok (.iconst 0, 1) := by decide +kernel
theorem dX4_quietPairs_101 : decode cX4_quietPairs 101 = .ok (.istore 5, 2) := by decide +kernel
theorem dX4_quietPairs_103 : decode cX4_quietPairs 103 = .ok (.iconst (-1), 1) := by decide +kernel
theorem dX4_quietPairs_104 : decode cX4_quietPairs 104 = .ok (.istore 6, 2) := by decide +kernel
theorem dX4_quietPairs_106 : decode cX4_quietPairs 106 = .ok (.iconst 0, 1) := by decide +kernel
theorem dX4_quietPairs_107 : decode cX4_quietPairs 107 = .ok (.istore 7, 2) := by decide +kernel
theorem dX4_quietPairs_109 : decode cX4_quietPairs 109 = .ok (.iload 7, 2) := by decide +kernel
theorem dX4_quietPairs_111 : decode cX4_quietPairs 111 = .ok (.bipush 17, 2) := by decide +kernel
theorem dX4_quietPairs_113 : decode cX4_quietPairs 113 = .ok (.if_icmp .ge 79, 3) := by decide +kernel
theorem dX4_quietPairs_116 : decode cX4_quietPairs 116 = .ok (.iconst 0, 1) := by decide +kernel
theorem dX4_quietPairs_117 : decode cX4_quietPairs 117 = .ok (.istore 8, 2) := by decide +kernel
theorem dX4_quietPairs_119 : decode cX4_quietPairs 119 = .ok (.iload 8, 2) := by decide +kernel
theorem dX4_quietPairs_121 : decode cX4_quietPairs 121 = .ok (.bipush 17, 2) := by decide +kernel
theorem dX4_quietPairs_123 : decode cX4_quietPairs 123 = .ok (.if_icmp .ge 63, 3) := by decide +kernel
theorem dX4_quietPairs_126 : decode cX4_quietPairs 126 = .ok (.aload_n 0, 1) := by decide +kernel
theorem dX4_quietPairs_127 : decode cX4_quietPairs 127 = .ok (.iload 7, 2) := by decide +kernel
theorem dX4_quietPairs_129 : decode cX4_quietPairs 129 = .ok (.invokevirtual 113, 3) := by decide +kernel
theorem dX4_quietPairs_132 : decode cX4_quietPairs 132 = .ok (.ifCond .eq 48, 3) := by decide +kernel
theorem dX4_quietPairs_135 : decode cX4_quietPairs 135 = .ok (.aload_n 0, 1) := by decide +kernel
theorem dX4_quietPairs_136 : decode cX4_quietPairs 136 = .ok (.iload 8, 2) := by decide +kernel
theorem dX4_quietPairs_138 : decode cX4_quietPairs 138 = .ok (.invokevirtual 113, 3) := by decide +kernel
theorem dX4_quietPairs_141 : decode cX4_quietPairs 141 = .ok (.ifCond .eq 39, 3) := by decide +kernel
theorem dX4_quietPairs_144 : decode cX4_quietPairs 144 = .ok (.aload_n 0, 1) := by decide +kernel
theorem dX4_quietPairs_145 : decode cX4_quietPairs 145 = .ok (.iload 7, 2) := by decide +kernel
theorem dX4_quietPairs_147 : decode cX4_quietPairs 147 = .ok (.iload 8, 2) := by decide +kernel
theorem dX4_quietPairs_149 : decode cX4_quietPairs 149 = .ok (.iload_n 1, 1) := by decide +kernel
theorem dX4_quietPairs_150 : decode cX4_quietPairs 150 = .ok (.iload_n 2, 1) := by decide +kernel
theorem dX4_quietPairs_151 : decode cX4_quietPairs 151 = .ok (.invokevirtual 116, 3) := by decide +kernel
theorem dX4_quietPairs_154 : decode cX4_quietPairs 154 = .ok (.ifCond .eq 26, 3) := by decide +kernel
theorem dX4_quietPairs_157 : decode cX4_quietPairs 157 = .ok (.iload 5, 2) := by decide +kernel
theorem dX4_quietPairs_159 : decode cX4_quietPairs 159 = .ok (.ifCond .ne 14, 3) := by decide +kernel
theorem dX4_quietPairs_162 : decode cX4_quietPairs 162 = .ok (.bipush 100, 2) := by decide +kernel
theorem dX4_quietPairs_164 : decode cX4_quietPairs 164 = .ok (.iload 7, 2) := by decide +kernel
theorem dX4_quietPairs_166 : decode cX4_quietPairs 166 = .ok (.imul, 1) := by decide +kernel
theorem dX4_quietPairs_167 : decode cX4_quietPairs 167 = .ok (.iload 8, 2) := by decide +kernel
theorem dX4_quietPairs_169 : decode cX4_quietPairs 169 = .ok (.iadd, 1) := by decide +kernel
theorem dX4_quietPairs_170 : decode cX4_quietPairs 170 = .ok (.goto 5, 3) := by decide +kernel
theorem dX4_quietPairs_173 : decode cX4_quietPairs 173 = .ok (.iload 6, 2) := by decide +kernel
theorem dX4_quietPairs_175 : decode cX4_quietPairs 175 = .ok (.istore 6, 2) := by decide +kernel
theorem dX4_quietPairs_177 : decode cX4_quietPairs 177 = .ok (.iinc 5 1, 3) := by decide +kernel
theorem dX4_quietPairs_180 : decode cX4_quietPairs 180 = .ok (.iinc 8 1, 3) := by decide +kernel
theorem dX4_quietPairs_183 : decode cX4_quietPairs 183 = .ok (.goto (-64), 3) := by decide +kernel
theorem dX4_quietPairs_186 : decode cX4_quietPairs 186 = .ok (.iinc 7 1, 3) := by decide +kernel
theorem dX4_quietPairs_189 : decode cX4_quietPairs 189 = .ok (.goto (-80), 3) := by decide +kernel
theorem dX4_quietPairs_192 : decode cX4_quietPairs 192 = .ok (.iload 4, 2) := by decide +kernel
theorem dX4_quietPairs_194 : decode cX4_quietPairs 194 = .ok (.ifCond .ne 8, 3) := by decide +kernel
theorem dX4_quietPairs_197 : decode cX4_quietPairs 197 = .ok (.iload 5, 2) := by decide +kernel
theorem dX4_quietPairs_199 : decode cX4_quietPairs 199 = .ok (.goto 5, 3) := by decide +kernel
theorem dX4_quietPairs_202 : decode cX4_quietPairs 202 = .ok (.iload 6, 2) := by decide +kernel
theorem dX4_quietPairs_204 : decode cX4_quietPairs 204 = .ok (.ireturn, 1) := by decide +kernel
def fX4_quietPairs_17 (K7 : Nat → Int32 → Int32 → Int32 → Int32 → Int32 → zV → Option (Int32 × zV)) : Nat → Nat → Int32 → Int32 → Int32 → Int32 → Int32 → Int32 → zV → Option (Int32 × zV)
  | 0 => fun _ _ _ _ _ _ _ _ => none
  | n + 1 => fun x0 x1 x2 x3 x4 x5 x6 v =>
    if (17 : Int32) ≤ x6 then
      K7 x0 x1 x2 x3 x4 (x5 + (1 : Int32)) v
    else
      zbindv (fX4_raise x0 (x5 - (1 : Int32)) x3 v) fun v_1 =>
      zbindv (fX4_raise x0 (x6 - (1 : Int32)) x3 v_1) fun v_2 =>
      zbind (fX2_choose (zrf x0 1) (zrf x0 3) v_2) fun r_4 v_3 =>
      zbindv (fX9_set (zrf x0 5) ((x5 * (17 : Int32)) + x6) r_4 v_3) fun v_5 =>
      zbindv (fX4_raise x0 (x5 - (1 : Int32)) (-x3) v_5) fun v_6 =>
      zbindv (fX4_raise x0 (x6 - (1 : Int32)) (-x3) v_6) fun v_7 =>
      (fX4_quietPairs_17 K7 n) x0 x1 x2 x3 x4 x5 (x6 + (1 : Int32)) v_7
set_option maxRecDepth 4000 in
theorem jX4_quietPairs_17 (x : zCx) (G : zG) (F : zF x G cX4_quietPairs 9 RX4 7 212) (hr : x.2.2.2.2.2.2.2.2.1.sig.returnType = (Option.some FieldType.int)) (hk : x.2.2.2.2.2.2.2.2.1.locks = false) (r : Int32) (w : zV) (K7 : Nat → Int32 → Int32 → Int32 → Int32 → Int32 → zV → Option (Int32 × zV)) (hK7 : ∀ (x0 : Nat) (t0 : zty G x0 1 4) (x1 : Int32) (x2 : Int32) (x3 : Int32) (x4 : Int32) (x5 : Int32) (v : zV), K7 x0 x1 x2 x3 x4 x5 v = some (r, w) → zJ x G 9 (zQ x G (some (.int r)) w 0 0) 0 0 7 [(0, zr G x0), (1, .int x1), (2, .int x2), (3, .int x3), (4, .int x4), (5, .int x5)] [] v) : ∀ (n : Nat) (x0 : Nat) (t0 : zty G x0 1 4) (x1 : Int32) (x2 : Int32) (x3 : Int32) (x4 : Int32) (x5 : Int32) (x6 : Int32) (v : zV), fX4_quietPairs_17 K7 n x0 x1 x2 x3 x4 x5 x6 v = some (r, w) → zJ x G 9 (zQ x G (some (.int r)) w 0 0) 0 0 17 [(0, zr G x0), (1, .int x1), (2, .int x2), (3, .int x3), (4, .int x4), (5, .int x5), (6, .int x6)] [] v := by
  intro n
  induction n with
  | zero => intro x0 t0 x1 x2 x3 x4 x5 x6 v h; exact absurd h (by intro q; cases q)
  | succ n ih =>
    intro x0 t0 x1 x2 x3 x4 x5 x6 v h
    rw [fX4_quietPairs_17] at h
    dsimp only at h
    refine z_iload F dX4_quietPairs_17 6 rfl ?_
    refine z_bipush (y := (17 : Int32)) F dX4_quietPairs_19 rfl ?_
    refine z_icmp_ge F 94 dX4_quietPairs_21 rfl (fun hc => ?_) (fun hc => ?_)
    · replace h := zif_t hc h
      refine z_iinc F [(5, .int (x5 + (1 : Int32))), (0, zr G x0), (1, .int x1), (2, .int x2), (3, .int x3), (4, .int x4), (6, .int x6)] dX4_quietPairs_94 5 rfl rfl (Nat.le_of_ble_eq_true rfl) rfl ?_
      refine z_goto F 7 dX4_quietPairs_97 rfl ?_
      refine z_ls [(0, zr G x0), (1, .int x1), (2, .int x2), (3, .int x3), (4, .int x4), (5, .int (x5 + (1 : Int32)))] [1, 2, 3, 4, 5, 0] rfl ?_
      exact hK7 x0 t0 x1 x2 x3 x4 (x5 + (1 : Int32)) v h
    · replace h := zif_f hc h
      refine z_aload_n F dX4_quietPairs_24 rfl 0 rfl ?_
      refine z_iload F dX4_quietPairs_25 5 rfl ?_
      refine z_iconst (y := (1 : Int32)) F dX4_quietPairs_27 rfl ?_
      refine z_isub F dX4_quietPairs_28 ?_
      refine z_iload_n F dX4_quietPairs_29 rfl 3 rfl ?_
      obtain ⟨v_1, hq30, h⟩ := zbindv_ex h
      refine z_callVv F [.int (x5 - (1 : Int32)), .int x3] [] (kX4_raise x.2.1 G x0 t0 (x5 - (1 : Int32)) x3 v v_1 hq30) mI_X4_raise (c := 4) rfl t0 wM_X4_109 mi_X4_raise sl_X4_raise dX4_quietPairs_30 rfl ⟨Nat.le_of_ble_eq_true rfl, Nat.le_of_ble_eq_true rfl⟩ rfl (Nat.le_of_ble_eq_true rfl) ⟨Nat.zero_le _, Nat.zero_le _⟩ ?_
      refine z_aload_n F dX4_quietPairs_33 rfl 0 rfl ?_
      refine z_iload F dX4_quietPairs_34 6 rfl ?_
      refine z_iconst (y := (1 : Int32)) F dX4_quietPairs_36 rfl ?_
      refine z_isub F dX4_quietPairs_37 ?_
      refine z_iload_n F dX4_quietPairs_38 rfl 3 rfl ?_
      obtain ⟨v_2, hq39, h⟩ := zbindv_ex h
      refine z_callVv F [.int (x6 - (1 : Int32)), .int x3] [] (kX4_raise x.2.1 G x0 t0 (x6 - (1 : Int32)) x3 v_1 v_2 hq39) mI_X4_raise (c := 4) rfl t0 wM_X4_109 mi_X4_raise sl_X4_raise dX4_quietPairs_39 rfl ⟨Nat.le_of_ble_eq_true rfl, Nat.le_of_ble_eq_true rfl⟩ rfl (Nat.le_of_ble_eq_true rfl) ⟨Nat.zero_le _, Nat.zero_le _⟩ ?_
      refine z_aload_n F dX4_quietPairs_42 rfl 0 rfl ?_
      refine zg_4_5 F t0 wF_X4_22 dX4_quietPairs_43 ?_
      refine z_iload F dX4_quietPairs_46 5 rfl ?_
      refine z_bipush (y := (17 : Int32)) F dX4_quietPairs_48 rfl ?_
      refine z_imul F dX4_quietPairs_50 ?_
      refine z_iload F dX4_quietPairs_51 6 rfl ?_
      refine z_iadd F dX4_quietPairs_53 ?_
      refine z_aload_n F dX4_quietPairs_54 rfl 0 rfl ?_
      refine zg_4_1 F t0 wF_X4_36 dX4_quietPairs_55 ?_
      refine z_aload_n F dX4_quietPairs_58 rfl 0 rfl ?_
      refine zg_4_3 F t0 wF_X4_12 dX4_quietPairs_59 ?_
      obtain ⟨r_4, v_3, hq62, h⟩ := zbind_ex h
      refine z_callVi F [zr G (zrf x0 3)] [.int ((x5 * (17 : Int32)) + x6), zr G (zrf x0 5)] (kX2_choose x.2.1 G (zrf x0 1) (zt_f tc_4_1 t0) (zrf x0 3) (zt_f tc_4_3 t0) v_2 r_4 v_3 hq62) mI_X2_choose (c := 2) rfl (zt_f tc_4_1 t0) wM_X4_106 mi_X2_choose sl_X2_choose dX4_quietPairs_62 rfl ⟨Nat.le_of_ble_eq_true rfl, Nat.le_of_ble_eq_true rfl⟩ rfl (Nat.le_of_ble_eq_true rfl) ⟨Nat.zero_le _, Nat.zero_le _⟩ ?_
      obtain ⟨v_5, hq65, h⟩ := zbindv_ex h
      refine z_callSNv F [zr G (zrf x0 5), .int ((x5 * (17 : Int32)) + x6), .int r_4] [] (kX9_set x.2.1 G (zrf x0 5) (zt_f tc_4_5 t0) ((x5 * (17 : Int32)) + x6) r_4 v_3 v_5 hq65) mI_X9_set wN_X4_99 ms_X9_set dX4_quietPairs_65 rfl ⟨Nat.le_of_ble_eq_true rfl, Nat.le_of_ble_eq_true rfl⟩ rfl (Nat.le_of_ble_eq_true rfl) ⟨Nat.zero_le _, Nat.zero_le _⟩ ?_
      refine z_aload_n F dX4_quietPairs_68 rfl 0 rfl ?_
      refine z_iload F dX4_quietPairs_69 5 rfl ?_
      refine z_iconst (y := (1 : Int32)) F dX4_quietPairs_71 rfl ?_
      refine z_isub F dX4_quietPairs_72 ?_
      refine z_iload_n F dX4_quietPairs_73 rfl 3 rfl ?_
      refine z_ineg F dX4_quietPairs_74 ?_
      obtain ⟨v_6, hq75, h⟩ := zbindv_ex h
      refine z_callVv F [.int (x5 - (1 : Int32)), .int (-x3)] [] (kX4_raise x.2.1 G x0 t0 (x5 - (1 : Int32)) (-x3) v_5 v_6 hq75) mI_X4_raise (c := 4) rfl t0 wM_X4_109 mi_X4_raise sl_X4_raise dX4_quietPairs_75 rfl ⟨Nat.le_of_ble_eq_true rfl, Nat.le_of_ble_eq_true rfl⟩ rfl (Nat.le_of_ble_eq_true rfl) ⟨Nat.zero_le _, Nat.zero_le _⟩ ?_
      refine z_aload_n F dX4_quietPairs_78 rfl 0 rfl ?_
      refine z_iload F dX4_quietPairs_79 6 rfl ?_
      refine z_iconst (y := (1 : Int32)) F dX4_quietPairs_81 rfl ?_
      refine z_isub F dX4_quietPairs_82 ?_
      refine z_iload_n F dX4_quietPairs_83 rfl 3 rfl ?_
      refine z_ineg F dX4_quietPairs_84 ?_
      obtain ⟨v_7, hq85, h⟩ := zbindv_ex h
      refine z_callVv F [.int (x6 - (1 : Int32)), .int (-x3)] [] (kX4_raise x.2.1 G x0 t0 (x6 - (1 : Int32)) (-x3) v_6 v_7 hq85) mI_X4_raise (c := 4) rfl t0 wM_X4_109 mi_X4_raise sl_X4_raise dX4_quietPairs_85 rfl ⟨Nat.le_of_ble_eq_true rfl, Nat.le_of_ble_eq_true rfl⟩ rfl (Nat.le_of_ble_eq_true rfl) ⟨Nat.zero_le _, Nat.zero_le _⟩ ?_
      refine z_iinc F [(6, .int (x6 + (1 : Int32))), (0, zr G x0), (1, .int x1), (2, .int x2), (3, .int x3), (4, .int x4), (5, .int x5)] dX4_quietPairs_88 6 rfl rfl (Nat.le_of_ble_eq_true rfl) rfl ?_
      refine z_goto F 17 dX4_quietPairs_91 rfl ?_
      refine z_ls [(0, zr G x0), (1, .int x1), (2, .int x2), (3, .int x3), (4, .int x4), (5, .int x5), (6, .int (x6 + (1 : Int32)))] [1, 2, 3, 4, 5, 6, 0] rfl ?_
      exact ih x0 t0 x1 x2 x3 x4 x5 (x6 + (1 : Int32)) v_7 h

def fX4_quietPairs_119 (K109 : Nat → Int32 → Int32 → Int32 → Int32 → Int32 → Int32 → zV → Option (Int32 × zV)) : Nat → Nat → Int32 → Int32 → Int32 → Int32 → Int32 → Int32 → Int32 → zV → Option (Int32 × zV)
  | 0 => fun _ _ _ _ _ _ _ _ _ => none
  | n + 1 => fun x0 x1 x2 x4 x5 x6 x7 x8 v =>
    if (17 : Int32) ≤ x8 then
      K109 x0 x1 x2 x4 x5 x6 (x7 + (1 : Int32)) v
    else
      zbind (fX4_isOpen x0 x7 v) fun r_2 v_1 =>
      if r_2 = (0 : Int32) then
        (fX4_quietPairs_119 K109 n) x0 x1 x2 x4 x5 x6 x7 (x8 + (1 : Int32)) v_1
      else
        zbind (fX4_isOpen x0 x8 v_1) fun r_4 v_3 =>
        if r_4 = (0 : Int32) then
          (fX4_quietPairs_119 K109 n) x0 x1 x2 x4 x5 x6 x7 (x8 + (1 : Int32)) v_3
        else
          zbind (fX4_isQuiet x0 x7 x8 x1 x2 v_3) fun r_6 v_5 =>
          if r_6 = (0 : Int32) then
            (fX4_quietPairs_119 K109 n) x0 x1 x2 x4 x5 x6 x7 (x8 + (1 : Int32)) v_5
          else
            if x5 = (0 : Int32) then
              (fX4_quietPairs_119 K109 n) x0 x1 x2 x4 (x5 + (1 : Int32)) (((100 : Int32) * x7) + x8) x7 (x8 + (1 : Int32)) v_5
            else
              (fX4_quietPairs_119 K109 n) x0 x1 x2 x4 (x5 + (1 : Int32)) x6 x7 (x8 + (1 : Int32)) v_5
set_option maxRecDepth 4000 in
theorem jX4_quietPairs_119 (x : zCx) (G : zG) (F : zF x G cX4_quietPairs 9 RX4 7 212) (hr : x.2.2.2.2.2.2.2.2.1.sig.returnType = (Option.some FieldType.int)) (hk : x.2.2.2.2.2.2.2.2.1.locks = false) (r : Int32) (w : zV) (K109 : Nat → Int32 → Int32 → Int32 → Int32 → Int32 → Int32 → zV → Option (Int32 × zV)) (hK109 : ∀ (x0 : Nat) (t0 : zty G x0 1 4) (x1 : Int32) (x2 : Int32) (x4 : Int32) (x5 : Int32) (x6 : Int32) (x7 : Int32) (v : zV), K109 x0 x1 x2 x4 x5 x6 x7 v = some (r, w) → zJ x G 9 (zQ x G (some (.int r)) w 0 0) 0 0 109 [(0, zr G x0), (1, .int x1), (2, .int x2), (4, .int x4), (5, .int x5), (6, .int x6), (7, .int x7)] [] v) : ∀ (n : Nat) (x0 : Nat) (t0 : zty G x0 1 4) (x1 : Int32) (x2 : Int32) (x4 : Int32) (x5 : Int32) (x6 : Int32) (x7 : Int32) (x8 : Int32) (v : zV), fX4_quietPairs_119 K109 n x0 x1 x2 x4 x5 x6 x7 x8 v = some (r, w) → zJ x G 9 (zQ x G (some (.int r)) w 0 0) 0 0 119 [(0, zr G x0), (1, .int x1), (2, .int x2), (4, .int x4), (5, .int x5), (6, .int x6), (7, .int x7), (8, .int x8)] [] v := by
  intro n
  induction n with
  | zero => intro x0 t0 x1 x2 x4 x5 x6 x7 x8 v h; exact absurd h (by intro q; cases q)
  | succ n ih =>
    intro x0 t0 x1 x2 x4 x5 x6 x7 x8 v h
    rw [fX4_quietPairs_119] at h
    dsimp only at h
    refine z_iload F dX4_quietPairs_119 7 rfl ?_
    refine z_bipush (y := (17 : Int32)) F dX4_quietPairs_121 rfl ?_
    refine z_icmp_ge F 186 dX4_quietPairs_123 rfl (fun hc => ?_) (fun hc => ?_)
    · replace h := zif_t hc h
      refine z_iinc F [(7, .int (x7 + (1 : Int32))), (0, zr G x0), (1, .int x1), (2, .int x2), (4, .int x4), (5, .int x5), (6, .int x6), (8, .int x8)] dX4_quietPairs_186 6 rfl rfl (Nat.le_of_ble_eq_true rfl) rfl ?_
      refine z_goto F 109 dX4_quietPairs_189 rfl ?_
      refine z_ls [(0, zr G x0), (1, .int x1), (2, .int x2), (4, .int x4), (5, .int x5), (6, .int x6), (7, .int (x7 + (1 : Int32)))] [1, 2, 3, 4, 5, 6, 0] rfl ?_
      exact hK109 x0 t0 x1 x2 x4 x5 x6 (x7 + (1 : Int32)) v h
    · replace h := zif_f hc h
      refine z_aload_n F dX4_quietPairs_126 rfl 0 rfl ?_
      refine z_iload F dX4_quietPairs_127 6 rfl ?_
      obtain ⟨r_2, v_1, hq129, h⟩ := zbind_ex h
      refine z_callVi F [.int x7] [] (kX4_isOpen x.2.1 G x0 t0 x7 v r_2 v_1 hq129) mI_X4_isOpen (c := 4) rfl t0 wM_X4_113 mi_X4_isOpen sl_X4_isOpen dX4_quietPairs_129 rfl ⟨Nat.le_of_ble_eq_true rfl, Nat.le_of_ble_eq_true rfl⟩ rfl (Nat.le_of_ble_eq_true rfl) ⟨Nat.zero_le _, Nat.zero_le _⟩ ?_
      refine z_if_eq F 180 dX4_quietPairs_132 rfl (fun hc => ?_) (fun hc => ?_)
      · replace h := zif_t hc h
        refine z_iinc F [(8, .int (x8 + (1 : Int32))), (0, zr G x0), (1, .int x1), (2, .int x2), (4, .int x4), (5, .int x5), (6, .int x6), (7, .int x7)] dX4_quietPairs_180 7 rfl rfl (Nat.le_of_ble_eq_true rfl) rfl ?_
        refine z_goto F 119 dX4_quietPairs_183 rfl ?_
        refine z_ls [(0, zr G x0), (1, .int x1), (2, .int x2), (4, .int x4), (5, .int x5), (6, .int x6), (7, .int x7), (8, .int (x8 + (1 : Int32)))] [1, 2, 3, 4, 5, 6, 7, 0] rfl ?_
        exact ih x0 t0 x1 x2 x4 x5 x6 x7 (x8 + (1 : Int32)) v_1 h
      · replace h := zif_f hc h
        refine z_aload_n F dX4_quietPairs_135 rfl 0 rfl ?_
        refine z_iload F dX4_quietPairs_136 7 rfl ?_
        obtain ⟨r_4, v_3, hq138, h⟩ := zbind_ex h
        refine z_callVi F [.int x8] [] (kX4_isOpen x.2.1 G x0 t0 x8 v_1 r_4 v_3 hq138) mI_X4_isOpen (c := 4) rfl t0 wM_X4_113 mi_X4_isOpen sl_X4_isOpen dX4_quietPairs_138 rfl ⟨Nat.le_of_ble_eq_true rfl, Nat.le_of_ble_eq_true rfl⟩ rfl (Nat.le_of_ble_eq_true rfl) ⟨Nat.zero_le _, Nat.zero_le _⟩ ?_
        refine z_if_eq F 180 dX4_quietPairs_141 rfl (fun hc => ?_) (fun hc => ?_)
        · replace h := zif_t hc h
          refine z_iinc F [(8, .int (x8 + (1 : Int32))), (0, zr G x0), (1, .int x1), (2, .int x2), (4, .int x4), (5, .int x5), (6, .int x6), (7, .int x7)] dX4_quietPairs_180 7 rfl rfl (Nat.le_of_ble_eq_true rfl) rfl ?_
          refine z_goto F 119 dX4_quietPairs_183 rfl ?_
          refine z_ls [(0, zr G x0), (1, .int x1), (2, .int x2), (4, .int x4), (5, .int x5), (6, .int x6), (7, .int x7), (8, .int (x8 + (1 : Int32)))] [1, 2, 3, 4, 5, 6, 7, 0] rfl ?_
          exact ih x0 t0 x1 x2 x4 x5 x6 x7 (x8 + (1 : Int32)) v_3 h
        · replace h := zif_f hc h
          refine z_aload_n F dX4_quietPairs_144 rfl 0 rfl ?_
          refine z_iload F dX4_quietPairs_145 6 rfl ?_
          refine z_iload F dX4_quietPairs_147 7 rfl ?_
          refine z_iload_n F dX4_quietPairs_149 rfl 1 rfl ?_
          refine z_iload_n F dX4_quietPairs_150 rfl 2 rfl ?_
          obtain ⟨r_6, v_5, hq151, h⟩ := zbind_ex h
          refine z_callVi F [.int x7, .int x8, .int x1, .int x2] [] (kX4_isQuiet x.2.1 G x0 t0 x7 x8 x1 x2 v_3 r_6 v_5 hq151) mI_X4_isQuiet (c := 4) rfl t0 wM_X4_116 mi_X4_isQuiet sl_X4_isQuiet dX4_quietPairs_151 rfl ⟨Nat.le_of_ble_eq_true rfl, Nat.le_of_ble_eq_true rfl⟩ rfl (Nat.le_of_ble_eq_true rfl) ⟨Nat.zero_le _, Nat.zero_le _⟩ ?_
          refine z_if_eq F 180 dX4_quietPairs_154 rfl (fun hc => ?_) (fun hc => ?_)
          · replace h := zif_t hc h
            refine z_iinc F [(8, .int (x8 + (1 : Int32))), (0, zr G x0), (1, .int x1), (2, .int x2), (4, .int x4), (5, .int x5), (6, .int x6), (7, .int x7)] dX4_quietPairs_180 7 rfl rfl (Nat.le_of_ble_eq_true rfl) rfl ?_
            refine z_goto F 119 dX4_quietPairs_183 rfl ?_
            refine z_ls [(0, zr G x0), (1, .int x1), (2, .int x2), (4, .int x4), (5, .int x5), (6, .int x6), (7, .int x7), (8, .int (x8 + (1 : Int32)))] [1, 2, 3, 4, 5, 6, 7, 0] rfl ?_
            exact ih x0 t0 x1 x2 x4 x5 x6 x7 (x8 + (1 : Int32)) v_5 h
          · replace h := zif_f hc h
            refine z_iload F dX4_quietPairs_157 4 rfl ?_
            refine z_if_ne F 173 dX4_quietPairs_159 rfl (fun hc => ?_) (fun hc => ?_)
            · replace h := zif_f hc h
              refine z_iload F dX4_quietPairs_173 5 rfl ?_
              refine z_istore (n := 0) F [(6, .int x6), (0, zr G x0), (1, .int x1), (2, .int x2), (4, .int x4), (5, .int x5), (7, .int x7), (8, .int x8)] dX4_quietPairs_175 (Nat.le_of_ble_eq_true rfl) rfl ?_
              refine z_iinc F [(5, .int (x5 + (1 : Int32))), (6, .int x6), (0, zr G x0), (1, .int x1), (2, .int x2), (4, .int x4), (7, .int x7), (8, .int x8)] dX4_quietPairs_177 5 rfl rfl (Nat.le_of_ble_eq_true rfl) rfl ?_
              refine z_iinc F [(8, .int (x8 + (1 : Int32))), (5, .int (x5 + (1 : Int32))), (6, .int x6), (0, zr G x0), (1, .int x1), (2, .int x2), (4, .int x4), (7, .int x7)] dX4_quietPairs_180 7 rfl rfl (Nat.le_of_ble_eq_true rfl) rfl ?_
              refine z_goto F 119 dX4_quietPairs_183 rfl ?_
              refine z_ls [(0, zr G x0), (1, .int x1), (2, .int x2), (4, .int x4), (5, .int (x5 + (1 : Int32))), (6, .int x6), (7, .int x7), (8, .int (x8 + (1 : Int32)))] [3, 4, 5, 6, 1, 2, 7, 0] rfl ?_
              exact ih x0 t0 x1 x2 x4 (x5 + (1 : Int32)) x6 x7 (x8 + (1 : Int32)) v_5 h
            · replace h := zif_t hc h
              refine z_bipush (y := (100 : Int32)) F dX4_quietPairs_162 rfl ?_
              refine z_iload F dX4_quietPairs_164 6 rfl ?_
              refine z_imul F dX4_quietPairs_166 ?_
              refine z_iload F dX4_quietPairs_167 7 rfl ?_
              refine z_iadd F dX4_quietPairs_169 ?_
              refine z_goto F 175 dX4_quietPairs_170 rfl ?_
              refine z_istore (n := 0) F [(6, .int (((100 : Int32) * x7) + x8)), (0, zr G x0), (1, .int x1), (2, .int x2), (4, .int x4), (5, .int x5), (7, .int x7), (8, .int x8)] dX4_quietPairs_175 (Nat.le_of_ble_eq_true rfl) rfl ?_
              refine z_iinc F [(5, .int (x5 + (1 : Int32))), (6, .int (((100 : Int32) * x7) + x8)), (0, zr G x0), (1, .int x1), (2, .int x2), (4, .int x4), (7, .int x7), (8, .int x8)] dX4_quietPairs_177 5 rfl rfl (Nat.le_of_ble_eq_true rfl) rfl ?_
              refine z_iinc F [(8, .int (x8 + (1 : Int32))), (5, .int (x5 + (1 : Int32))), (6, .int (((100 : Int32) * x7) + x8)), (0, zr G x0), (1, .int x1), (2, .int x2), (4, .int x4), (7, .int x7)] dX4_quietPairs_180 7 rfl rfl (Nat.le_of_ble_eq_true rfl) rfl ?_
              refine z_goto F 119 dX4_quietPairs_183 rfl ?_
              refine z_ls [(0, zr G x0), (1, .int x1), (2, .int x2), (4, .int x4), (5, .int (x5 + (1 : Int32))), (6, .int (((100 : Int32) * x7) + x8)), (7, .int x7), (8, .int (x8 + (1 : Int32)))] [3, 4, 5, 6, 1, 2, 7, 0] rfl ?_
              exact ih x0 t0 x1 x2 x4 (x5 + (1 : Int32)) (((100 : Int32) * x7) + x8) x7 (x8 + (1 : Int32)) v_5 h

def fX4_quietPairs_109  : Nat → Nat → Int32 → Int32 → Int32 → Int32 → Int32 → Int32 → zV → Option (Int32 × zV)
  | 0 => fun _ _ _ _ _ _ _ _ => none
  | n + 1 => fun x0 x1 x2 x4 x5 x6 x7 v =>
    if (17 : Int32) ≤ x7 then
      if x4 = (0 : Int32) then
        some (x5, v)
      else
        some (x6, v)
    else
      fX4_quietPairs_119 (fX4_quietPairs_109 n) zFU x0 x1 x2 x4 x5 x6 x7 (0 : Int32) v
set_option maxRecDepth 4000 in
theorem jX4_quietPairs_109 (x : zCx) (G : zG) (F : zF x G cX4_quietPairs 9 RX4 7 212) (hr : x.2.2.2.2.2.2.2.2.1.sig.returnType = (Option.some FieldType.int)) (hk : x.2.2.2.2.2.2.2.2.1.locks = false) (r : Int32) (w : zV)  : ∀ (n : Nat) (x0 : Nat) (t0 : zty G x0 1 4) (x1 : Int32) (x2 : Int32) (x4 : Int32) (x5 : Int32) (x6 : Int32) (x7 : Int32) (v : zV), fX4_quietPairs_109 n x0 x1 x2 x4 x5 x6 x7 v = some (r, w) → zJ x G 9 (zQ x G (some (.int r)) w 0 0) 0 0 109 [(0, zr G x0), (1, .int x1), (2, .int x2), (4, .int x4), (5, .int x5), (6, .int x6), (7, .int x7)] [] v := by
  intro n
  induction n with
  | zero => intro x0 t0 x1 x2 x4 x5 x6 x7 v h; exact absurd h (by intro q; cases q)
  | succ n ih =>
    intro x0 t0 x1 x2 x4 x5 x6 x7 v h
    rw [fX4_quietPairs_109] at h
    dsimp only at h
    refine z_iload F dX4_quietPairs_109 6 rfl ?_
    refine z_bipush (y := (17 : Int32)) F dX4_quietPairs_111 rfl ?_
    refine z_icmp_ge F 192 dX4_quietPairs_113 rfl (fun hc => ?_) (fun hc => ?_)
    · replace h := zif_t hc h
      refine z_iload F dX4_quietPairs_192 3 rfl ?_
      refine z_if_ne F 202 dX4_quietPairs_194 rfl (fun hc => ?_) (fun hc => ?_)
      · replace h := zif_f hc h
        refine z_iload F dX4_quietPairs_202 5 rfl ?_
        cases h
        exact z_reti F hr hk dX4_quietPairs_204
      · replace h := zif_t hc h
        refine z_iload F dX4_quietPairs_197 4 rfl ?_
        refine z_goto F 204 dX4_quietPairs_199 rfl ?_
        cases h
        exact z_reti F hr hk dX4_quietPairs_204
    · replace h := zif_f hc h
      refine z_iconst (y := (0 : Int32)) F dX4_quietPairs_116 rfl ?_
      refine z_istore (n := 0) F [(8, .int (0 : Int32)), (0, zr G x0), (1, .int x1), (2, .int x2), (4, .int x4), (5, .int x5), (6, .int x6), (7, .int x7)] dX4_quietPairs_117 (Nat.le_of_ble_eq_true rfl) rfl ?_
      refine z_ls [(0, zr G x0), (1, .int x1), (2, .int x2), (4, .int x4), (5, .int x5), (6, .int x6), (7, .int x7), (8, .int (0 : Int32))] [1, 2, 3, 4, 5, 6, 7, 0] rfl ?_
      exact jX4_quietPairs_119 x G F hr hk r w (fX4_quietPairs_109 n) ih zFU x0 t0 x1 x2 x4 x5 x6 x7 (0 : Int32) v h

def fX4_quietPairs_7  : Nat → Nat → Int32 → Int32 → Int32 → Int32 → Int32 → zV → Option (Int32 × zV)
  | 0 => fun _ _ _ _ _ _ _ => none
  | n + 1 => fun x0 x1 x2 x3 x4 x5 v =>
    if (17 : Int32) ≤ x5 then
      fX4_quietPairs_109  zFU x0 x1 x2 x4 (0 : Int32) (-1 : Int32) (0 : Int32) v
    else
      fX4_quietPairs_17 (fX4_quietPairs_7 n) zFU x0 x1 x2 x3 x4 x5 (0 : Int32) v
set_option maxRecDepth 4000 in
theorem jX4_quietPairs_7 (x : zCx) (G : zG) (F : zF x G cX4_quietPairs 9 RX4 7 212) (hr : x.2.2.2.2.2.2.2.2.1.sig.returnType = (Option.some FieldType.int)) (hk : x.2.2.2.2.2.2.2.2.1.locks = false) (r : Int32) (w : zV)  : ∀ (n : Nat) (x0 : Nat) (t0 : zty G x0 1 4) (x1 : Int32) (x2 : Int32) (x3 : Int32) (x4 : Int32) (x5 : Int32) (v : zV), fX4_quietPairs_7 n x0 x1 x2 x3 x4 x5 v = some (r, w) → zJ x G 9 (zQ x G (some (.int r)) w 0 0) 0 0 7 [(0, zr G x0), (1, .int x1), (2, .int x2), (3, .int x3), (4, .int x4), (5, .int x5)] [] v := by
  intro n
  induction n with
  | zero => intro x0 t0 x1 x2 x3 x4 x5 v h; exact absurd h (by intro q; cases q)
  | succ n ih =>
    intro x0 t0 x1 x2 x3 x4 x5 v h
    rw [fX4_quietPairs_7] at h
    dsimp only at h
    refine z_iload F dX4_quietPairs_7 5 rfl ?_
    refine z_bipush (y := (17 : Int32)) F dX4_quietPairs_9 rfl ?_
    refine z_icmp_ge F 100 dX4_quietPairs_11 rfl (fun hc => ?_) (fun hc => ?_)
    · replace h := zif_t hc h
      refine z_iconst (y := (0 : Int32)) F dX4_quietPairs_100 rfl ?_
      refine z_istore (n := 0) F [(5, .int (0 : Int32)), (0, zr G x0), (1, .int x1), (2, .int x2), (3, .int x3), (4, .int x4)] dX4_quietPairs_101 (Nat.le_of_ble_eq_true rfl) rfl ?_
      refine z_iconst (y := (-1 : Int32)) F dX4_quietPairs_103 rfl ?_
      refine z_istore (n := 0) F [(6, .int (-1 : Int32)), (5, .int (0 : Int32)), (0, zr G x0), (1, .int x1), (2, .int x2), (3, .int x3), (4, .int x4)] dX4_quietPairs_104 (Nat.le_of_ble_eq_true rfl) rfl ?_
      refine z_iconst (y := (0 : Int32)) F dX4_quietPairs_106 rfl ?_
      refine z_istore (n := 0) F [(7, .int (0 : Int32)), (6, .int (-1 : Int32)), (5, .int (0 : Int32)), (0, zr G x0), (1, .int x1), (2, .int x2), (3, .int x3), (4, .int x4)] dX4_quietPairs_107 (Nat.le_of_ble_eq_true rfl) rfl ?_
      refine z_ls [(0, zr G x0), (1, .int x1), (2, .int x2), (4, .int x4), (5, .int (0 : Int32)), (6, .int (-1 : Int32)), (7, .int (0 : Int32))] [3, 4, 5, 7, 2, 1, 0] rfl ?_
      exact jX4_quietPairs_109 x G F hr hk r w   zFU x0 t0 x1 x2 x4 (0 : Int32) (-1 : Int32) (0 : Int32) v h
    · replace h := zif_f hc h
      refine z_iconst (y := (0 : Int32)) F dX4_quietPairs_14 rfl ?_
      refine z_istore (n := 0) F [(6, .int (0 : Int32)), (0, zr G x0), (1, .int x1), (2, .int x2), (3, .int x3), (4, .int x4), (5, .int x5)] dX4_quietPairs_15 (Nat.le_of_ble_eq_true rfl) rfl ?_
      refine z_ls [(0, zr G x0), (1, .int x1), (2, .int x2), (3, .int x3), (4, .int x4), (5, .int x5), (6, .int (0 : Int32))] [1, 2, 3, 4, 5, 6, 0] rfl ?_
      exact jX4_quietPairs_17 x G F hr hk r w (fX4_quietPairs_7 n) ih zFU x0 t0 x1 x2 x3 x4 x5 (0 : Int32) v h

def fX4_quietPairs (x0 : Nat) (x1 : Int32) (x2 : Int32) (x3 : Int32) (x4 : Int32) (v : zV) : Option (Int32 × zV) :=
  zbindv (fX4_scoreThisYear x0 v) fun v_1 =>
  fX4_quietPairs_7  zFU x0 x1 x2 x3 x4 (0 : Int32) v_1
set_option maxRecDepth 4000 in
theorem kX4_quietPairs (l : Launch) (G : zG) (x0 : Nat) (t0 : zty G x0 1 4) (x1 : Int32) (x2 : Int32) (x3 : Int32) (x4 : Int32) (v : zV) (r : Int32) (w : zV) (h : fX4_quietPairs x0 x1 x2 x3 x4 v = some (r, w)) : zMet l yX4_quietPairs cX4_quietPairs 9 (Option.some FieldType.int) 7 212 0 0 [zr G x0, .int x1, .int x2, .int x3, .int x4] G v (some (.int r)) w := by
  refine zM_of (own := RX4) (by decide) rfl (Nat.le_of_ble_eq_true rfl) (fun x hl F hr hk hcs => ?_)
  subst hl
  refine z_ls [(0, zr G x0), (1, .int x1), (2, .int x2), (3, .int x3), (4, .int x4)] [0, 1, 2, 3, 4] rfl ?_
  unfold fX4_quietPairs at h
  refine z_aload_n F dX4_quietPairs_0 rfl 0 rfl ?_
  obtain ⟨v_1, hq1, h⟩ := zbindv_ex h
  refine z_callVv F [] [] (kX4_scoreThisYear x.2.1 G x0 t0 v v_1 hq1) mI_X4_scoreThisYear (c := 4) rfl t0 wM_X4_103 mi_X4_scoreThisYear sl_X4_scoreThisYear dX4_quietPairs_1 rfl ⟨Nat.le_of_ble_eq_true rfl, Nat.le_of_ble_eq_true rfl⟩ rfl (Nat.le_of_ble_eq_true rfl) ⟨Nat.zero_le _, Nat.zero_le _⟩ ?_
  refine z_iconst (y := (0 : Int32)) F dX4_quietPairs_4 rfl ?_
  refine z_istore (n := 0) F [(5, .int (0 : Int32)), (0, zr G x0), (1, .int x1), (2, .int x2), (3, .int x3), (4, .int x4)] dX4_quietPairs_5 (Nat.le_of_ble_eq_true rfl) rfl ?_
  refine z_ls [(0, zr G x0), (1, .int x1), (2, .int x2), (3, .int x3), (4, .int x4), (5, .int (0 : Int32))] [1, 2, 3, 4, 5, 0] rfl ?_
  exact jX4_quietPairs_7 x G F hr hk r w   zFU x0 t0 x1 x2 x3 x4 (0 : Int32) v_1 h

theorem dX4_praisedTill_0 : decode cX4_praisedTill 0 = .ok (.iconst 0, 1) := by decide +kernel
theorem dX4_praisedTill_1 : decode cX4_praisedTill 1 = .ok (.istore_n 2, 1) := by decide +kernel
theorem dX4_praisedTill_2 : decode cX4_praisedTill 2 = .ok (.iconst 0, 1) := by decide +kernel
theorem dX4_praisedTill_3 : decode cX4_praisedTill 3 = .ok (.istore_n 3, 1) := by decide +kernel
theorem dX4_praisedTill_4 : decode cX4_praisedTill 4 = .ok (.iload_n 3, 1) := by decide +kernel
theorem dX4_praisedTill_5 : decode cX4_praisedTill 5 = .ok (.iload_n 1, 1) := by decide +kernel
theorem dX4_praisedTill_6 : decode cX4_praisedTill 6 = .ok (.if_icmp .gt 28, 3) := by decide +kernel
theorem dX4_praisedTill_9 : decode cX4_praisedTill 9 = .ok (.iload_n 2, 1) := by decide +kernel
theorem dX4_praisedTill_10 : decode cX4_praisedTill 10 = .ok (.aload_n 0, 1) := by decide +kernel
theorem dX4_praisedTill_11 : decode cX4_praisedTill 11 = .ok (.getfield 29, 3) := by decide +kernel
theorem dX4_praisedTill_14 : decode cX4_praisedTill 14 = .ok (.iload_n 3, 1) := by decide +kernel
theorem dX4_praisedTill_15 : decode cX4_praisedTill 15 = .ok (.invokestatic 70, 3) := by decide +kernel
theorem dX4_praisedTill_18 : decode cX4_praisedTill 18 = .ok (.ifCond .le 7, 3) := by decide +kernel
theorem dX4_praisedTill_21 : decode cX4_praisedTill 21 = .ok (.iconst 1, 1) := by decide +kernel
theorem dX4_praisedTill_22 : decode cX4_praisedTill 22 = .ok (.goto 4, 3) := by decide +kernel
theorem dX4_praisedTill_25 : decode cX4_praisedTill 25 = .ok (.iconst 0, 1) := by decide +kernel
theorem dX4_praisedTill_26 : decode cX4_praisedTill 26 = .ok (.iadd, 1) := by decide +kernel
theorem dX4_praisedTill_27 : decode cX4_praisedTill 27 = .ok (.istore_n 2, 1) := by decide +kernel
theorem dX4_praisedTill_28 : decode cX4_praisedTill 28 = .ok (.iinc 3 1, 3) := by decide +kernel
theorem dX4_praisedTill_31 : decode cX4_praisedTill 31 = .ok (.goto (-27), 3) := by decide +kernel
theorem dX4_praisedTill_34 : decode cX4_praisedTill 34 = .ok (.iload_n 2, 1) := by decide +kernel
theorem dX4_praisedTill_35 : decode cX4_praisedTill 35 = .ok (.ireturn, 1) := by decide +kernel
def fX4_praisedTill_4  : Nat → Nat → Int32 → Int32 → Int32 → zV → Option (Int32 × zV)
  | 0 => fun _ _ _ _ _ => none
  | n + 1 => fun x0 x1 x2 x3 v =>
    if x1 < x3 then
      some (x2, v)
    else
      zbind (fX9_get (zrf x0 7) x3 v) fun r_2 v_1 =>
      if r_2 ≤ (0 : Int32) then
        (fX4_praisedTill_4 n) x0 x1 (x2 + (0 : Int32)) (x3 + (1 : Int32)) v_1
      else
        (fX4_praisedTill_4 n) x0 x1 (x2 + (1 : Int32)) (x3 + (1 : Int32)) v_1
set_option maxRecDepth 4000 in
theorem jX4_praisedTill_4 (x : zCx) (G : zG) (F : zF x G cX4_praisedTill 4 RX4 2 101) (hr : x.2.2.2.2.2.2.2.2.1.sig.returnType = (Option.some FieldType.int)) (hk : x.2.2.2.2.2.2.2.2.1.locks = false) (r : Int32) (w : zV)  : ∀ (n : Nat) (x0 : Nat) (t0 : zty G x0 1 4) (x1 : Int32) (x2 : Int32) (x3 : Int32) (v : zV), fX4_praisedTill_4 n x0 x1 x2 x3 v = some (r, w) → zJ x G 4 (zQ x G (some (.int r)) w 0 0) 0 0 4 [(0, zr G x0), (1, .int x1), (2, .int x2), (3, .int x3)] [] v := by
  intro n
  induction n with
  | zero => intro x0 t0 x1 x2 x3 v h; exact absurd h (by intro q; cases q)
  | succ n ih =>
    intro x0 t0 x1 x2 x3 v h
    rw [fX4_praisedTill_4] at h
    dsimp only at h
    refine z_iload_n F dX4_praisedTill_4 rfl 3 rfl ?_
    refine z_iload_n F dX4_praisedTill_5 rfl 1 rfl ?_
    refine z_icmp_gt F 34 dX4_praisedTill_6 rfl (fun hc => ?_) (fun hc => ?_)
    · replace h := zif_t hc h
      refine z_iload_n F dX4_praisedTill_34 rfl 2 rfl ?_
      cases h
      exact z_reti F hr hk dX4_praisedTill_35
    · replace h := zif_f hc h
      refine z_iload_n F dX4_praisedTill_9 rfl 2 rfl ?_
      refine z_aload_n F dX4_praisedTill_10 rfl 0 rfl ?_
      refine zg_4_7 F t0 wF_X4_29 dX4_praisedTill_11 ?_
      refine z_iload_n F dX4_praisedTill_14 rfl 3 rfl ?_
      obtain ⟨r_2, v_1, hq15, h⟩ := zbind_ex h
      refine z_callSNi F [zr G (zrf x0 7), .int x3] [.int x2] (kX9_get x.2.1 G (zrf x0 7) (zt_f tc_4_7 t0) x3 v r_2 v_1 hq15) mI_X9_get wN_X4_70 ms_X9_get dX4_praisedTill_15 rfl ⟨Nat.le_of_ble_eq_true rfl, Nat.le_of_ble_eq_true rfl⟩ rfl (Nat.le_of_ble_eq_true rfl) ⟨Nat.zero_le _, Nat.zero_le _⟩ ?_
      refine z_if_le F 25 dX4_praisedTill_18 rfl (fun hc => ?_) (fun hc => ?_)
      · replace h := zif_t hc h
        refine z_iconst (y := (0 : Int32)) F dX4_praisedTill_25 rfl ?_
        refine z_iadd F dX4_praisedTill_26 ?_
        refine z_istore_n F [(2, .int (x2 + (0 : Int32))), (0, zr G x0), (1, .int x1), (3, .int x3)] dX4_praisedTill_27 rfl (Nat.le_of_ble_eq_true rfl) rfl ?_
        refine z_iinc F [(3, .int (x3 + (1 : Int32))), (2, .int (x2 + (0 : Int32))), (0, zr G x0), (1, .int x1)] dX4_praisedTill_28 3 rfl rfl (Nat.le_of_ble_eq_true rfl) rfl ?_
        refine z_goto F 4 dX4_praisedTill_31 rfl ?_
        refine z_ls [(0, zr G x0), (1, .int x1), (2, .int (x2 + (0 : Int32))), (3, .int (x3 + (1 : Int32)))] [2, 3, 1, 0] rfl ?_
        exact ih x0 t0 x1 (x2 + (0 : Int32)) (x3 + (1 : Int32)) v_1 h
      · replace h := zif_f hc h
        refine z_iconst (y := (1 : Int32)) F dX4_praisedTill_21 rfl ?_
        refine z_goto F 26 dX4_praisedTill_22 rfl ?_
        refine z_iadd F dX4_praisedTill_26 ?_
        refine z_istore_n F [(2, .int (x2 + (1 : Int32))), (0, zr G x0), (1, .int x1), (3, .int x3)] dX4_praisedTill_27 rfl (Nat.le_of_ble_eq_true rfl) rfl ?_
        refine z_iinc F [(3, .int (x3 + (1 : Int32))), (2, .int (x2 + (1 : Int32))), (0, zr G x0), (1, .int x1)] dX4_praisedTill_28 3 rfl rfl (Nat.le_of_ble_eq_true rfl) rfl ?_
        refine z_goto F 4 dX4_praisedTill_31 rfl ?_
        refine z_ls [(0, zr G x0), (1, .int x1), (2, .int (x2 + (1 : Int32))), (3, .int (x3 + (1 : Int32)))] [2, 3, 1, 0] rfl ?_
        exact ih x0 t0 x1 (x2 + (1 : Int32)) (x3 + (1 : Int32)) v_1 h

def fX4_praisedTill (x0 : Nat) (x1 : Int32) (v : zV) : Option (Int32 × zV) :=
  fX4_praisedTill_4  zFU x0 x1 (0 : Int32) (0 : Int32) v
set_option maxRecDepth 4000 in
theorem kX4_praisedTill (l : Launch) (G : zG) (x0 : Nat) (t0 : zty G x0 1 4) (x1 : Int32) (v : zV) (r : Int32) (w : zV) (h : fX4_praisedTill x0 x1 v = some (r, w)) : zMet l yX4_praisedTill cX4_praisedTill 4 (Option.some FieldType.int) 2 101 0 0 [zr G x0, .int x1] G v (some (.int r)) w := by
  refine zM_of (own := RX4) (by decide) rfl (Nat.le_of_ble_eq_true rfl) (fun x hl F hr hk hcs => ?_)
  subst hl
  refine z_ls [(0, zr G x0), (1, .int x1)] [0, 1] rfl ?_
  unfold fX4_praisedTill at h
  refine z_iconst (y := (0 : Int32)) F dX4_praisedTill_0 rfl ?_
  refine z_istore_n F [(2, .int (0 : Int32)), (0, zr G x0), (1, .int x1)] dX4_praisedTill_1 rfl (Nat.le_of_ble_eq_true rfl) rfl ?_
  refine z_iconst (y := (0 : Int32)) F dX4_praisedTill_2 rfl ?_
  refine z_istore_n F [(3, .int (0 : Int32)), (2, .int (0 : Int32)), (0, zr G x0), (1, .int x1)] dX4_praisedTill_3 rfl (Nat.le_of_ble_eq_true rfl) rfl ?_
  refine z_ls [(0, zr G x0), (1, .int x1), (2, .int (0 : Int32)), (3, .int (0 : Int32))] [2, 3, 1, 0] rfl ?_
  exact jX4_praisedTill_4 x G F hr hk r w   zFU x0 t0 x1 (0 : Int32) (0 : Int32) v h

theorem dX4_isWorthTrying_0 : decode cX4_isWorthTrying 0 = .ok (.aload_n 0, 1) := by decide +kernel
theorem dX4_isWorthTrying_1 : decode cX4_isWorthTrying 1 = .ok (.getfield 29, 3) := by decide +kernel
theorem dX4_isWorthTrying_4 : decode cX4_isWorthTrying 4 = .ok (.iload_n 1, 1) := by decide +kernel
theorem dX4_isWorthTrying_5 : decode cX4_isWorthTrying 5 = .ok (.invokestatic 70, 3) := by decide +kernel
theorem dX4_isWorthTrying_8 : decode cX4_isWorthTrying 8 = .ok (.istore_n 2, 1) := by decide +kernel
theorem dX4_isWorthTrying_9 : decode cX4_isWorthTrying 9 = .ok (.iload_n 1, 1) := by decide +kernel
theorem dX4_isWorthTrying_10 : decode cX4_isWorthTrying 10 = .ok (.ifCond .lt 24, 3) := by decide +kernel
theorem dX4_isWorthTrying_13 : decode cX4_isWorthTrying 13 = .ok (.iload_n 1, 1) := by decide +kernel
theorem dX4_isWorthTrying_14 : decode cX4_isWorthTrying 14 = .ok (.aload_n 0, 1) := by decide +kernel
theorem dX4_isWorthTrying_15 : decode cX4_isWorthTrying 15 = .ok (.getfield 18, 3) := by decide +kernel
theorem dX4_isWorthTrying_18 : decode cX4_isWorthTrying 18 = .ok (.arraylength, 1) := by decide +kernel
theorem dX4_isWorthTrying_19 : decode cX4_isWorthTrying 19 = .ok (.if_icmp .ge 15, 3) := by decide +kernel
theorem dX4_isWorthTrying_22 : decode cX4_isWorthTrying 22 = .ok (.aload_n 0, 1) := by decide +kernel
theorem dX4_isWorthTrying_23 : decode cX4_isWorthTrying 23 = .ok (.iload_n 1, 1) := by decide +kernel
theorem dX4_isWorthTrying_24 : decode cX4_isWorthTrying 24 = .ok (.invokevirtual 134, 3) := by decide +kernel
theorem dX4_isWorthTrying_27 : decode cX4_isWorthTrying 27 = .ok (.aload_n 0, 1) := by decide +kernel
theorem dX4_isWorthTrying_28 : decode cX4_isWorthTrying 28 = .ok (.getfield 120, 3) := by decide +kernel
theorem dX4_isWorthTrying_31 : decode cX4_isWorthTrying 31 = .ok (.if_icmp .lt 5, 3) := by decide +kernel
theorem dX4_isWorthTrying_34 : decode cX4_isWorthTrying 34 = .ok (.iconst 0, 1) := by decide +kernel
theorem dX4_isWorthTrying_35 : decode cX4_isWorthTrying 35 = .ok (.ireturn, 1) := by decide +kernel
theorem dX4_isWorthTrying_36 : decode cX4_isWorthTrying 36 = .ok (.iload_n 2, 1) := by decide +kernel
theorem dX4_isWorthTrying_37 : decode cX4_isWorthTrying 37 = .ok (.ifCond .eq 18, 3) := by decide +kernel
theorem dX4_isWorthTrying_40 : decode cX4_isWorthTrying 40 = .ok (.aload_n 0, 1) := by decide +kernel
theorem dX4_isWorthTrying_41 : decode cX4_isWorthTrying 41 = .ok (.getfield 18, 3) := by decide +kernel
theorem dX4_isWorthTrying_44 : decode cX4_isWorthTrying 44 = .ok (.iload_n 1, 1) := by decide +kernel
theorem dX4_isWorthTrying_45 : decode cX4_isWorthTrying 45 = .ok (.aaload, 1) := by decide +kernel
theorem dX4_isWorthTrying_46 : decode cX4_isWorthTrying 46 = .ok (.iload_n 2, 1) := by decide +kernel
theorem dX4_isWorthTrying_47 : decode cX4_isWorthTrying 47 = .ok (.iconst 1, 1) := by decide +kernel
theorem dX4_isWorthTrying_48 : decode cX4_isWorthTrying 48 = .ok (.isub, 1) := by decide +kernel
theorem dX4_isWorthTrying_49 : decode cX4_isWorthTrying 49 = .ok (.invokevirtual 86, 3) := by decide +kernel
theorem dX4_isWorthTrying_52 : decode cX4_isWorthTrying 52 = .ok (.ifCond .eq 7, 3) := by decide +kernel
theorem dX4_isWorthTrying_55 : decode cX4_isWorthTrying 55 = .ok (.iconst 1, 1) := by decide +kernel
theorem dX4_isWorthTrying_56 : decode cX4_isWorthTrying 56 = .ok (.goto 4, 3) := by decide +kernel
theorem dX4_isWorthTrying_59 : decode cX4_isWorthTrying 59 = .ok (.iconst 0, 1) := by decide +kernel
theorem dX4_isWorthTrying_60 : decode cX4_isWorthTrying 60 = .ok (.ireturn, 1) := by decide +kernel
def fX4_isWorthTrying (x0 : Nat) (x1 : Int32) (v : zV) : Option (Int32 × zV) :=
  zbind (fX9_get (zrf x0 7) x1 v) fun r_2 v_1 =>
  if x1 < (0 : Int32) then
    some ((0 : Int32), v_1)
  else
    if (Int32.ofNat (zlen (zrf x0 4))) ≤ x1 then
      some ((0 : Int32), v_1)
    else
      zbind (fX4_praisedTill x0 x1 v_1) fun r_4 v_3 =>
      if r_4 < (v_3 x0 8) then
        if r_2 = (0 : Int32) then
          some ((1 : Int32), v_3)
        else
          zix x1 (zlen (zrf x0 4)) <|
          zbind (fX7_isWaiting (zrf (zrf x0 4) (x1).toNatClampNeg) (r_2 - (1 : Int32)) v_3) fun r_6 v_5 =>
          if r_6 = (0 : Int32) then
            some ((0 : Int32), v_5)
          else
            some ((1 : Int32), v_5)
      else
        some ((0 : Int32), v_3)
set_option maxRecDepth 4000 in
theorem kX4_isWorthTrying (l : Launch) (G : zG) (x0 : Nat) (t0 : zty G x0 1 4) (x1 : Int32) (v : zV) (r : Int32) (w : zV) (h : fX4_isWorthTrying x0 x1 v = some (r, w)) : zMet l yX4_isWorthTrying cX4_isWorthTrying 3 (Option.some FieldType.boolean) 3 124 0 0 [zr G x0, .int x1] G v (some (.int r)) w := by
  refine zM_of (own := RX4) (by decide) rfl (Nat.le_of_ble_eq_true rfl) (fun x hl F hr hk hcs => ?_)
  subst hl
  refine z_ls [(0, zr G x0), (1, .int x1)] [0, 1] rfl ?_
  unfold fX4_isWorthTrying at h
  refine z_aload_n F dX4_isWorthTrying_0 rfl 0 rfl ?_
  refine zg_4_7 F t0 wF_X4_29 dX4_isWorthTrying_1 ?_
  refine z_iload_n F dX4_isWorthTrying_4 rfl 1 rfl ?_
  obtain ⟨r_2, v_1, hq5, h⟩ := zbind_ex h
  refine z_callSNi F [zr G (zrf x0 7), .int x1] [] (kX9_get x.2.1 G (zrf x0 7) (zt_f tc_4_7 t0) x1 v r_2 v_1 hq5) mI_X9_get wN_X4_70 ms_X9_get dX4_isWorthTrying_5 rfl ⟨Nat.le_of_ble_eq_true rfl, Nat.le_of_ble_eq_true rfl⟩ rfl (Nat.le_of_ble_eq_true rfl) ⟨Nat.zero_le _, Nat.zero_le _⟩ ?_
  refine z_istore_n F [(2, .int r_2), (0, zr G x0), (1, .int x1)] dX4_isWorthTrying_8 rfl (Nat.le_of_ble_eq_true rfl) rfl ?_
  refine z_iload_n F dX4_isWorthTrying_9 rfl 2 rfl ?_
  refine z_if_lt F 34 dX4_isWorthTrying_10 rfl (fun hc => ?_) (fun hc => ?_)
  · replace h := zif_t hc h
    refine z_iconst (y := (0 : Int32)) F dX4_isWorthTrying_34 rfl ?_
    cases h
    exact z_retz F hr hk rfl dX4_isWorthTrying_35
  · replace h := zif_f hc h
    refine z_iload_n F dX4_isWorthTrying_13 rfl 2 rfl ?_
    refine z_aload_n F dX4_isWorthTrying_14 rfl 1 rfl ?_
    refine zg_4_4 F t0 wF_X4_18 dX4_isWorthTrying_15 ?_
    refine z_alen4 F (zt_f tc_4_4 t0) dX4_isWorthTrying_18 rfl ?_
    refine z_icmp_ge F 34 dX4_isWorthTrying_19 rfl (fun hc => ?_) (fun hc => ?_)
    · replace h := zif_t hc h
      refine z_iconst (y := (0 : Int32)) F dX4_isWorthTrying_34 rfl ?_
      cases h
      exact z_retz F hr hk rfl dX4_isWorthTrying_35
    · replace h := zif_f hc h
      refine z_aload_n F dX4_isWorthTrying_22 rfl 1 rfl ?_
      refine z_iload_n F dX4_isWorthTrying_23 rfl 2 rfl ?_
      obtain ⟨r_4, v_3, hq24, h⟩ := zbind_ex h
      refine z_callVi F [.int x1] [] (kX4_praisedTill x.2.1 G x0 t0 x1 v_1 r_4 v_3 hq24) mI_X4_praisedTill (c := 4) rfl t0 wM_X4_134 mi_X4_praisedTill sl_X4_praisedTill dX4_isWorthTrying_24 rfl ⟨Nat.le_of_ble_eq_true rfl, Nat.le_of_ble_eq_true rfl⟩ rfl (Nat.le_of_ble_eq_true rfl) ⟨Nat.zero_le _, Nat.zero_le _⟩ ?_
      refine z_aload_n F dX4_isWorthTrying_27 rfl 1 rfl ?_
      refine zg_4_8 F t0 wF_X4_120 dX4_isWorthTrying_28 ?_
      refine z_icmp_lt F 36 dX4_isWorthTrying_31 rfl (fun hc => ?_) (fun hc => ?_)
      · replace h := zif_t hc h
        refine z_iload_n F dX4_isWorthTrying_36 rfl 0 rfl ?_
        refine z_if_eq F 55 dX4_isWorthTrying_37 rfl (fun hc => ?_) (fun hc => ?_)
        · replace h := zif_t hc h
          refine z_iconst (y := (1 : Int32)) F dX4_isWorthTrying_55 rfl ?_
          refine z_goto F 60 dX4_isWorthTrying_56 rfl ?_
          cases h
          exact z_retz F hr hk rfl dX4_isWorthTrying_60
        · replace h := zif_f hc h
          refine z_aload_n F dX4_isWorthTrying_40 rfl 1 rfl ?_
          refine zg_4_4 F t0 wF_X4_18 dX4_isWorthTrying_41 ?_
          refine z_iload_n F dX4_isWorthTrying_44 rfl 2 rfl ?_
          obtain ⟨hi45, h⟩ := zix_ex h
          refine z_aald4 F (zt_f tc_4_4 t0) dX4_isWorthTrying_45 hi45 ?_
          refine z_iload_n F dX4_isWorthTrying_46 rfl 0 rfl ?_
          refine z_iconst (y := (1 : Int32)) F dX4_isWorthTrying_47 rfl ?_
          refine z_isub F dX4_isWorthTrying_48 ?_
          obtain ⟨r_6, v_5, hq49, h⟩ := zbind_ex h
          refine z_callVi F [.int (r_2 - (1 : Int32))] [] (kX7_isWaiting x.2.1 G (zrf (zrf x0 4) (x1).toNatClampNeg) (zt_a tcA_4 (zt_f tc_4_4 t0) (zin_lt hi45)) (r_2 - (1 : Int32)) v_3 r_6 v_5 hq49) mI_X7_isWaiting (c := 7) rfl (zt_a tcA_4 (zt_f tc_4_4 t0) (zin_lt hi45)) wM_X4_86 mi_X7_isWaiting sl_X7_isWaiting dX4_isWorthTrying_49 rfl ⟨Nat.le_of_ble_eq_true rfl, Nat.le_of_ble_eq_true rfl⟩ rfl (Nat.le_of_ble_eq_true rfl) ⟨Nat.zero_le _, Nat.zero_le _⟩ ?_
          refine z_if_eq F 59 dX4_isWorthTrying_52 rfl (fun hc => ?_) (fun hc => ?_)
          · replace h := zif_t hc h
            refine z_iconst (y := (0 : Int32)) F dX4_isWorthTrying_59 rfl ?_
            cases h
            exact z_retz F hr hk rfl dX4_isWorthTrying_60
          · replace h := zif_f hc h
            refine z_iconst (y := (1 : Int32)) F dX4_isWorthTrying_55 rfl ?_
            refine z_goto F 60 dX4_isWorthTrying_56 rfl ?_
            cases h
            exact z_retz F hr hk rfl dX4_isWorthTrying_60
      · replace h := zif_f hc h
        refine z_iconst (y := (0 : Int32)) F dX4_isWorthTrying_34 rfl ?_
        cases h
        exact z_retz F hr hk rfl dX4_isWorthTrying_35

theorem dX4_wayTill_0 : decode cX4_wayTill 0 = .ok (.iconst 0, 1) := by decide +kernel
theorem dX4_wayTill_1 : decode cX4_wayTill 1 = .ok (.istore_n 3, 1) := by decide +kernel
theorem dX4_wayTill_2 : decode cX4_wayTill 2 = .ok (.iconst 0, 1) := by decide +kernel
theorem dX4_wayTill_3 : decode cX4_wayTill 3 = .ok (.istore 4, 2) := by decide +kernel
theorem dX4_wayTill_5 : decode cX4_wayTill 5 = .ok (.iload 4, 2) := by decide +kernel
theorem dX4_wayTill_7 : decode cX4_wayTill 7 = .ok (.iload_n 2, 1) := by decide +kernel
theorem dX4_wayTill_8 : decode cX4_wayTill 8 = .ok (.if_icmp .ge 34, 3) := by decide +kernel
theorem dX4_wayTill_11 : decode cX4_wayTill 11 = .ok (.iload_n 3, 1) := by decide +kernel
theorem dX4_wayTill_12 : decode cX4_wayTill 12 = .ok (.bipush 100, 2) := by decide +kernel
theorem dX4_wayTill_14 : decode cX4_wayTill 14 = .ok (.imul, 1) := by decide +kernel
theorem dX4_wayTill_15 : decode cX4_wayTill 15 = .ok (.iload 4, 2) := by decide +kernel
theorem dX4_wayTill_17 : decode cX4_wayTill 17 = .ok (.iload_n 1, 1) := by decide +kernel
theorem dX4_wayTill_18 : decode cX4_wayTill 18 = .ok (.if_icmp .gt 15, 3) := by decide +kernel
theorem dX4_wayTill_21 : decode cX4_wayTill 21 = .ok (.aload_n 0, 1) := by decide +kernel
theorem dX4_wayTill_22 : decode cX4_wayTill 22 = .ok (.getfield 29, 3) := by decide +kernel
theorem dX4_wayTill_25 : decode cX4_wayTill 25 = .ok (.iload 4, 2) := by decide +kernel
theorem dX4_wayTill_27 : decode cX4_wayTill 27 = .ok (.invokestatic 70, 3) := by decide +kernel
theorem dX4_wayTill_30 : decode cX4_wayTill 30 = .ok (.goto 4, 3) := by decide +kernel
theorem dX4_wayTill_33 : decode cX4_wayTill 33 = .ok (.iconst 0, 1) := by decide +kernel
theorem dX4_wayTill_34 : decode cX4_wayTill 34 = .ok (.iadd, 1) := by decide +kernel
theorem dX4_wayTill_35 : decode cX4_wayTill 35 = .ok (.istore_n 3, 1) := by decide +kernel
theorem dX4_wayTill_36 : decode cX4_wayTill 36 = .ok (.iinc 4 1, 3) := by decide +kernel
theorem dX4_wayTill_39 : decode cX4_wayTill 39 = .ok (.goto (-34), 3) := by decide +kernel
theorem dX4_wayTill_42 : decode cX4_wayTill 42 = .ok (.iload_n 3, 1) := by decide +kernel
theorem dX4_wayTill_43 : decode cX4_wayTill 43 = .ok (.ireturn, 1) := by decide +kernel
def fX4_wayTill_5  : Nat → Nat → Int32 → Int32 → Int32 → Int32 → zV → Option (Int32 × zV)
  | 0 => fun _ _ _ _ _ _ => none
  | n + 1 => fun x0 x1 x2 x3 x4 v =>
    if x2 ≤ x4 then
      some (x3, v)
    else
      if x1 < x4 then
        (fX4_wayTill_5 n) x0 x1 x2 ((x3 * (100 : Int32)) + (0 : Int32)) (x4 + (1 : Int32)) v
      else
        zbind (fX9_get (zrf x0 7) x4 v) fun r_2 v_1 =>
        (fX4_wayTill_5 n) x0 x1 x2 ((x3 * (100 : Int32)) + r_2) (x4 + (1 : Int32)) v_1
set_option maxRecDepth 4000 in
theorem jX4_wayTill_5 (x : zCx) (G : zG) (F : zF x G cX4_wayTill 5 RX4 2 101) (hr : x.2.2.2.2.2.2.2.2.1.sig.returnType = (Option.some FieldType.int)) (hk : x.2.2.2.2.2.2.2.2.1.locks = false) (r : Int32) (w : zV)  : ∀ (n : Nat) (x0 : Nat) (t0 : zty G x0 1 4) (x1 : Int32) (x2 : Int32) (x3 : Int32) (x4 : Int32) (v : zV), fX4_wayTill_5 n x0 x1 x2 x3 x4 v = some (r, w) → zJ x G 5 (zQ x G (some (.int r)) w 0 0) 0 0 5 [(0, zr G x0), (1, .int x1), (2, .int x2), (3, .int x3), (4, .int x4)] [] v := by
  intro n
  induction n with
  | zero => intro x0 t0 x1 x2 x3 x4 v h; exact absurd h (by intro q; cases q)
  | succ n ih =>
    intro x0 t0 x1 x2 x3 x4 v h
    rw [fX4_wayTill_5] at h
    dsimp only at h
    refine z_iload F dX4_wayTill_5 4 rfl ?_
    refine z_iload_n F dX4_wayTill_7 rfl 2 rfl ?_
    refine z_icmp_ge F 42 dX4_wayTill_8 rfl (fun hc => ?_) (fun hc => ?_)
    · replace h := zif_t hc h
      refine z_iload_n F dX4_wayTill_42 rfl 3 rfl ?_
      cases h
      exact z_reti F hr hk dX4_wayTill_43
    · replace h := zif_f hc h
      refine z_iload_n F dX4_wayTill_11 rfl 3 rfl ?_
      refine z_bipush (y := (100 : Int32)) F dX4_wayTill_12 rfl ?_
      refine z_imul F dX4_wayTill_14 ?_
      refine z_iload F dX4_wayTill_15 4 rfl ?_
      refine z_iload_n F dX4_wayTill_17 rfl 1 rfl ?_
      refine z_icmp_gt F 33 dX4_wayTill_18 rfl (fun hc => ?_) (fun hc => ?_)
      · replace h := zif_t hc h
        refine z_iconst (y := (0 : Int32)) F dX4_wayTill_33 rfl ?_
        refine z_iadd F dX4_wayTill_34 ?_
        refine z_istore_n F [(3, .int ((x3 * (100 : Int32)) + (0 : Int32))), (0, zr G x0), (1, .int x1), (2, .int x2), (4, .int x4)] dX4_wayTill_35 rfl (Nat.le_of_ble_eq_true rfl) rfl ?_
        refine z_iinc F [(4, .int (x4 + (1 : Int32))), (3, .int ((x3 * (100 : Int32)) + (0 : Int32))), (0, zr G x0), (1, .int x1), (2, .int x2)] dX4_wayTill_36 4 rfl rfl (Nat.le_of_ble_eq_true rfl) rfl ?_
        refine z_goto F 5 dX4_wayTill_39 rfl ?_
        refine z_ls [(0, zr G x0), (1, .int x1), (2, .int x2), (3, .int ((x3 * (100 : Int32)) + (0 : Int32))), (4, .int (x4 + (1 : Int32)))] [2, 3, 4, 1, 0] rfl ?_
        exact ih x0 t0 x1 x2 ((x3 * (100 : Int32)) + (0 : Int32)) (x4 + (1 : Int32)) v h
      · replace h := zif_f hc h
        refine z_aload_n F dX4_wayTill_21 rfl 0 rfl ?_
        refine zg_4_7 F t0 wF_X4_29 dX4_wayTill_22 ?_
        refine z_iload F dX4_wayTill_25 4 rfl ?_
        obtain ⟨r_2, v_1, hq27, h⟩ := zbind_ex h
        refine z_callSNi F [zr G (zrf x0 7), .int x4] [.int (x3 * (100 : Int32))] (kX9_get x.2.1 G (zrf x0 7) (zt_f tc_4_7 t0) x4 v r_2 v_1 hq27) mI_X9_get wN_X4_70 ms_X9_get dX4_wayTill_27 rfl ⟨Nat.le_of_ble_eq_true rfl, Nat.le_of_ble_eq_true rfl⟩ rfl (Nat.le_of_ble_eq_true rfl) ⟨Nat.zero_le _, Nat.zero_le _⟩ ?_
        refine z_goto F 34 dX4_wayTill_30 rfl ?_
        refine z_iadd F dX4_wayTill_34 ?_
        refine z_istore_n F [(3, .int ((x3 * (100 : Int32)) + r_2)), (0, zr G x0), (1, .int x1), (2, .int x2), (4, .int x4)] dX4_wayTill_35 rfl (Nat.le_of_ble_eq_true rfl) rfl ?_
        refine z_iinc F [(4, .int (x4 + (1 : Int32))), (3, .int ((x3 * (100 : Int32)) + r_2)), (0, zr G x0), (1, .int x1), (2, .int x2)] dX4_wayTill_36 4 rfl rfl (Nat.le_of_ble_eq_true rfl) rfl ?_
        refine z_goto F 5 dX4_wayTill_39 rfl ?_
        refine z_ls [(0, zr G x0), (1, .int x1), (2, .int x2), (3, .int ((x3 * (100 : Int32)) + r_2)), (4, .int (x4 + (1 : Int32)))] [2, 3, 4, 1, 0] rfl ?_
        exact ih x0 t0 x1 x2 ((x3 * (100 : Int32)) + r_2) (x4 + (1 : Int32)) v_1 h

def fX4_wayTill (x0 : Nat) (x1 : Int32) (x2 : Int32) (v : zV) : Option (Int32 × zV) :=
  fX4_wayTill_5  zFU x0 x1 x2 (0 : Int32) (0 : Int32) v
set_option maxRecDepth 4000 in
theorem kX4_wayTill (l : Launch) (G : zG) (x0 : Nat) (t0 : zty G x0 1 4) (x1 : Int32) (x2 : Int32) (v : zV) (r : Int32) (w : zV) (h : fX4_wayTill x0 x1 x2 v = some (r, w)) : zMet l yX4_wayTill cX4_wayTill 5 (Option.some FieldType.int) 2 101 0 0 [zr G x0, .int x1, .int x2] G v (some (.int r)) w := by
  refine zM_of (own := RX4) (by decide) rfl (Nat.le_of_ble_eq_true rfl) (fun x hl F hr hk hcs => ?_)
  subst hl
  refine z_ls [(0, zr G x0), (1, .int x1), (2, .int x2)] [0, 1, 2] rfl ?_
  unfold fX4_wayTill at h
  refine z_iconst (y := (0 : Int32)) F dX4_wayTill_0 rfl ?_
  refine z_istore_n F [(3, .int (0 : Int32)), (0, zr G x0), (1, .int x1), (2, .int x2)] dX4_wayTill_1 rfl (Nat.le_of_ble_eq_true rfl) rfl ?_
  refine z_iconst (y := (0 : Int32)) F dX4_wayTill_2 rfl ?_
  refine z_istore (n := 0) F [(4, .int (0 : Int32)), (3, .int (0 : Int32)), (0, zr G x0), (1, .int x1), (2, .int x2)] dX4_wayTill_3 (Nat.le_of_ble_eq_true rfl) rfl ?_
  refine z_ls [(0, zr G x0), (1, .int x1), (2, .int x2), (3, .int (0 : Int32)), (4, .int (0 : Int32))] [2, 3, 4, 1, 0] rfl ?_
  exact jX4_wayTill_5 x G F hr hk r w   zFU x0 t0 x1 x2 (0 : Int32) (0 : Int32) v h

theorem dX4_tryChoice_0 : decode cX4_tryChoice 0 = .ok (.iload_n 1, 1) := by decide +kernel
theorem dX4_tryChoice_1 : decode cX4_tryChoice 1 = .ok (.ifCond .lt 14, 3) := by decide +kernel
theorem dX4_tryChoice_4 : decode cX4_tryChoice 4 = .ok (.iload_n 1, 1) := by decide +kernel
theorem dX4_tryChoice_5 : decode cX4_tryChoice 5 = .ok (.iconst 1, 1) := by decide +kernel
theorem dX4_tryChoice_6 : decode cX4_tryChoice 6 = .ok (.iadd, 1) := by decide +kernel
theorem dX4_tryChoice_7 : decode cX4_tryChoice 7 = .ok (.aload_n 0, 1) := by decide +kernel
theorem dX4_tryChoice_8 : decode cX4_tryChoice 8 = .ok (.getfield 18, 3) := by decide +kernel
theorem dX4_tryChoice_11 : decode cX4_tryChoice 11 = .ok (.arraylength, 1) := by decide +kernel
theorem dX4_tryChoice_12 : decode cX4_tryChoice 12 = .ok (.if_icmp .lt 5, 3) := by decide +kernel
theorem dX4_tryChoice_15 : decode cX4_tryChoice 15 = .ok (.iconst (-1), 1) := by decide +kernel
theorem dX4_tryChoice_16 : decode cX4_tryChoice 16 = .ok (.ireturn, 1) := by decide +kernel
theorem dX4_tryChoice_17 : decode cX4_tryChoice 17 = .ok (.aload_n 0, 1) := by decide +kernel
theorem dX4_tryChoice_18 : decode cX4_tryChoice 18 = .ok (.getfield 18, 3) := by decide +kernel
theorem dX4_tryChoice_21 : decode cX4_tryChoice 21 = .ok (.iload_n 1, 1) := by decide +kernel
theorem dX4_tryChoice_22 : decode cX4_tryChoice 22 = .ok (.iconst 1, 1) := by decide +kernel
theorem dX4_tryChoice_23 : decode cX4_tryChoice 23 = .ok (.iadd, 1) := by decide +kernel
theorem dX4_tryChoice_24 : decode cX4_tryChoice 24 = .ok (.aaload, 1) := by decide +kernel
theorem dX4_tryChoice_25 : decode cX4_tryChoice 25 = .ok (.astore 5, 2) := by decide +kernel
theorem dX4_tryChoice_27 : decode cX4_tryChoice 27 = .ok (.aload 5, 2) := by decide +kernel
theorem dX4_tryChoice_29 : decode cX4_tryChoice 29 = .ok (.aload_n 0, 1) := by decide +kernel
theorem dX4_tryChoice_30 : decode cX4_tryChoice 30 = .ok (.getfield 18, 3) := by decide +kernel
theorem dX4_tryChoice_33 : decode cX4_tryChoice 33 = .ok (.iload_n 1, 1) := by decide +kernel
theorem dX4_tryChoice_34 : decode cX4_tryChoice 34 = .ok (.aaload, 1) := by decide +kernel
theorem dX4_tryChoice_35 : decode cX4_tryChoice 35 = .ok (.invokevirtual 43, 3) := by decide +kernel
theorem dX4_tryChoice_38 : decode cX4_tryChoice 38 = .ok (.aload_n 0, 1) := by decide +kernel
theorem dX4_tryChoice_39 : decode cX4_tryChoice 39 = .ok (.getfield 29, 3) := by decide +kernel
theorem dX4_tryChoice_42 : decode cX4_tryChoice 42 = .ok (.iload_n 1, 1) := by decide +kernel
theorem dX4_tryChoice_43 : decode cX4_tryChoice 43 = .ok (.invokestatic 70, 3) := by decide +kernel
theorem dX4_tryChoice_46 : decode cX4_tryChoice 46 = .ok (.ifCond .le 20, 3) := by decide +kernel
theorem dX4_tryChoice_49 : decode cX4_tryChoice 49 = .ok (.aload 5, 2) := by decide +kernel
theorem dX4_tryChoice_51 : decode cX4_tryChoice 51 = .ok (.aload_n 0, 1) := by decide +kernel
theorem dX4_tryChoice_52 : decode cX4_tryChoice 52 = .ok (.getfield 29, 3) := by decide +kernel
theorem dX4_tryChoice_55 : decode cX4_tryChoice 55 = .ok (.iload_n 1, 1) := by decide +kernel
theorem dX4_tryChoice_56 : decode cX4_tryChoice 56 = .ok (.invokestatic 70, 3) := by decide +kernel
theorem dX4_tryChoice_59 : decode cX4_tryChoice 59 = .ok (.iconst 1, 1) := by decide +kernel
theorem dX4_tryChoice_60 : decode cX4_tryChoice 60 = .ok (.isub, 1) := by decide +kernel
theorem dX4_tryChoice_61 : decode cX4_tryChoice 61 = .ok (.iload 4, 2) := by decide +kernel
theorem dX4_tryChoice_63 : decode cX4_tryChoice 63 = .ok (.invokevirtual 138, 3) := by decide +kernel
theorem dX4_tryChoice_66 : decode cX4_tryChoice 66 = .ok (.aload_n 0, 1) := by decide +kernel
theorem dX4_tryChoice_67 : decode cX4_tryChoice 67 = .ok (.getfield 36, 3) := by decide +kernel
theorem dX4_tryChoice_70 : decode cX4_tryChoice 70 = .ok (.aload 5, 2) := by decide +kernel
theorem dX4_tryChoice_72 : decode cX4_tryChoice 72 = .ok (.invokevirtual 90, 3) := by decide +kernel
theorem dX4_tryChoice_75 : decode cX4_tryChoice 75 = .ok (.aload_n 0, 1) := by decide +kernel
theorem dX4_tryChoice_76 : decode cX4_tryChoice 76 = .ok (.getfield 36, 3) := by decide +kernel
theorem dX4_tryChoice_79 : decode cX4_tryChoice 79 = .ok (.aload 5, 2) := by decide +kernel
theorem dX4_tryChoice_81 : decode cX4_tryChoice 81 = .ok (.invokevirtual 141, 3) := by decide +kernel
theorem dX4_tryChoice_84 : decode cX4_tryChoice 84 = .ok (.iload_n 2, 1) := by decide +kernel
theorem dX4_tryChoice_85 : decode cX4_tryChoice 85 = .ok (.if_icmp .ne 24, 3) := by decide +kernel
theorem dX4_tryChoice_88 : decode cX4_tryChoice 88 = .ok (.aload_n 0, 1) := by decide +kernel
theorem dX4_tryChoice_89 : decode cX4_tryChoice 89 = .ok (.aload_n 0, 1) := by decide +kernel
theorem dX4_tryChoice_90 : decode cX4_tryChoice 90 = .ok (.iload_n 1, 1) := by decide +kernel
theorem dX4_tryChoice_91 : decode cX4_tryChoice 91 = .ok (.invokevirtual 134, 3) := by decide +kernel
theorem dX4_tryChoice_94 : decode cX4_tryChoice 94 = .ok (.putfield 120, 3) := by decide +kernel
theorem dX4_tryChoice_97 : decode cX4_tryChoice 97 = .ok (.aload_n 0, 1) := by decide +kernel
theorem dX4_tryChoice_98 : decode cX4_tryChoice 98 = .ok (.aload_n 0, 1) := by decide +kernel
theorem dX4_tryChoice_99 : decode cX4_tryChoice 99 = .ok (.iload_n 1, 1) := by decide +kernel
theorem dX4_tryChoice_100 : decode cX4_tryChoice 100 = .ok (.iload_n 3, 1) := by decide +kernel
theorem dX4_tryChoice_101 : decode cX4_tryChoice 101 = .ok (.invokevirtual 144, 3) := by decide +kernel
theorem dX4_tryChoice_104 : decode cX4_tryChoice 104 = .ok (.putfield 123, 3) := by decide +kernel
theorem dX4_tryChoice_107 : decode cX4_tryChoice 107 = .ok (.iload_n 1, 1) := by decide +kernel
theorem dX4_tryChoice_108 : decode cX4_tryChoice 108 = .ok (.ireturn, 1) := by decide +kernel
theorem dX4_tryChoice_109 : decode cX4_tryChoice 109 = .ok (.iload_n 1, 1) := by decide +kernel
theorem dX4_tryChoice_110 : decode cX4_tryChoice 110 = .ok (.iconst 1, 1) := by decide +kernel
theorem dX4_tryChoice_111 : decode cX4_tryChoice 111 = .ok (.iadd, 1) := by decide +kernel
theorem dX4_tryChoice_112 : decode cX4_tryChoice 112 = .ok (.iload_n 3, 1) := by decide +kernel
theorem dX4_tryChoice_113 : decode cX4_tryChoice 113 = .ok (.if_icmp .lt 5, 3) := by decide +kernel
theorem dX4_tryChoice_116 : decode cX4_tryChoice 116 = .ok (.iload_n 1, 1) := by decide +kernel
theorem dX4_tryChoice_117 : decode cX4_tryChoice 117 = .ok (.ireturn, 1) := by decide +kernel
theorem dX4_tryChoice_118 : decode cX4_tryChoice 118 = .ok (.aload_n 0, 1) := by decide +kernel
theorem dX4_tryChoice_119 : decode cX4_tryChoice 119 = .ok (.getfield 29, 3) := by decide +kernel
theorem dX4_tryChoice_122 : decode cX4_tryChoice 122 = .ok (.iload_n 1, 1) := by decide +kernel
theorem dX4_tryChoice_123 : decode cX4_tryChoice 123 = .ok (.iconst 1, 1) := by decide +kernel
theorem dX4_tryChoice_124 : decode cX4_tryChoice 124 = .ok (.iadd, 1) := by decide +kernel
theorem dX4_tryChoice_125 : decode cX4_tryChoice 125 = .ok (.iconst (-1), 1) := by decide +kernel
theorem dX4_tryChoice_126 : decode cX4_tryChoice 126 = .ok (.invokestatic 99, 3) := by decide +kernel
theorem dX4_tryChoice_129 : decode cX4_tryChoice 129 = .ok (.iload_n 1, 1) := by decide +kernel
theorem dX4_tryChoice_130 : decode cX4_tryChoice 130 = .ok (.iconst 1, 1) := by decide +kernel
theorem dX4_tryChoice_131 : decode cX4_tryChoice 131 = .ok (.iadd, 1) := by decide +kernel
theorem dX4_tryChoice_132 : decode cX4_tryChoice 132 = .ok (.ireturn, 1) := by decide +kernel
def fX4_tryChoice_66  (x0 : Nat) (x1 : Int32) (x2 : Int32) (x3 : Int32) (x5 : Nat) (v : zV) : Option (Int32 × zV) :=
  zbindv (fX2_tellDeaths (zrf x0 1) x5 v) fun v_1 =>
  zbind (fX2_settle (zrf x0 1) x5 v_1) fun r_3 v_2 =>
  if r_3 = x2 then
    zbind (fX4_praisedTill x0 x1 v_2) fun r_6 v_5 =>
    zlet (zup v_5 x0 8 r_6) fun v_7 =>
    zbind (fX4_wayTill x0 x1 x3 v_7) fun r_9 v_8 =>
    zlet (zup v_8 x0 9 r_9) fun v_10 =>
    some (x1, v_10)
  else
    if (x1 + (1 : Int32)) < x3 then
      zbindv (fX9_set (zrf x0 7) (x1 + (1 : Int32)) (-1 : Int32) v_2) fun v_4 =>
      some (x1 + (1 : Int32), v_4)
    else
      some (x1, v_2)
set_option maxRecDepth 4000 in
theorem jX4_tryChoice_66 (x : zCx) (G : zG) (F : zF x G cX4_tryChoice 6 RX4 6 193) (hr : x.2.2.2.2.2.2.2.2.1.sig.returnType = (Option.some FieldType.int)) (hk : x.2.2.2.2.2.2.2.2.1.locks = false) (r : Int32) (w : zV)  : ∀ (x0 : Nat) (t0 : zty G x0 1 4) (x1 : Int32) (x2 : Int32) (x3 : Int32) (x5 : Nat) (t5 : zty G x5 1 7) (v : zV), fX4_tryChoice_66 x0 x1 x2 x3 x5 v = some (r, w) → zJ x G 6 (zQ x G (some (.int r)) w 0 0) 0 0 66 [(0, zr G x0), (1, .int x1), (2, .int x2), (3, .int x3), (5, zr G x5)] [] v := by
  intro x0 t0 x1 x2 x3 x5 t5 v h
  unfold fX4_tryChoice_66 at h
  refine z_aload_n F dX4_tryChoice_66 rfl 0 rfl ?_
  refine zg_4_1 F t0 wF_X4_36 dX4_tryChoice_67 ?_
  refine z_aload F dX4_tryChoice_70 4 rfl ?_
  obtain ⟨v_1, hq72, h⟩ := zbindv_ex h
  refine z_callVv F [zr G x5] [] (kX2_tellDeaths x.2.1 G (zrf x0 1) (zt_f tc_4_1 t0) x5 t5 v v_1 hq72) mI_X2_tellDeaths (c := 2) rfl (zt_f tc_4_1 t0) wM_X4_90 mi_X2_tellDeaths sl_X2_tellDeaths dX4_tryChoice_72 rfl ⟨Nat.le_of_ble_eq_true rfl, Nat.le_of_ble_eq_true rfl⟩ rfl (Nat.le_of_ble_eq_true rfl) ⟨Nat.zero_le _, Nat.zero_le _⟩ ?_
  refine z_aload_n F dX4_tryChoice_75 rfl 0 rfl ?_
  refine zg_4_1 F t0 wF_X4_36 dX4_tryChoice_76 ?_
  refine z_aload F dX4_tryChoice_79 4 rfl ?_
  obtain ⟨r_3, v_2, hq81, h⟩ := zbind_ex h
  refine z_callVi F [zr G x5] [] (kX2_settle x.2.1 G (zrf x0 1) (zt_f tc_4_1 t0) x5 t5 v_1 r_3 v_2 hq81) mI_X2_settle (c := 2) rfl (zt_f tc_4_1 t0) wM_X4_141 mi_X2_settle sl_X2_settle dX4_tryChoice_81 rfl ⟨Nat.le_of_ble_eq_true rfl, Nat.le_of_ble_eq_true rfl⟩ rfl (Nat.le_of_ble_eq_true rfl) ⟨Nat.zero_le _, Nat.zero_le _⟩ ?_
  refine z_iload_n F dX4_tryChoice_84 rfl 2 rfl ?_
  refine z_icmp_ne F 109 dX4_tryChoice_85 rfl (fun hc => ?_) (fun hc => ?_)
  · replace h := zif_f hc h
    refine z_iload_n F dX4_tryChoice_109 rfl 1 rfl ?_
    refine z_iconst (y := (1 : Int32)) F dX4_tryChoice_110 rfl ?_
    refine z_iadd F dX4_tryChoice_111 ?_
    refine z_iload_n F dX4_tryChoice_112 rfl 3 rfl ?_
    refine z_icmp_lt F 118 dX4_tryChoice_113 rfl (fun hc => ?_) (fun hc => ?_)
    · replace h := zif_t hc h
      refine z_aload_n F dX4_tryChoice_118 rfl 0 rfl ?_
      refine zg_4_7 F t0 wF_X4_29 dX4_tryChoice_119 ?_
      refine z_iload_n F dX4_tryChoice_122 rfl 1 rfl ?_
      refine z_iconst (y := (1 : Int32)) F dX4_tryChoice_123 rfl ?_
      refine z_iadd F dX4_tryChoice_124 ?_
      refine z_iconst (y := (-1 : Int32)) F dX4_tryChoice_125 rfl ?_
      obtain ⟨v_4, hq126, h⟩ := zbindv_ex h
      refine z_callSNv F [zr G (zrf x0 7), .int (x1 + (1 : Int32)), .int (-1 : Int32)] [] (kX9_set x.2.1 G (zrf x0 7) (zt_f tc_4_7 t0) (x1 + (1 : Int32)) (-1 : Int32) v_2 v_4 hq126) mI_X9_set wN_X4_99 ms_X9_set dX4_tryChoice_126 rfl ⟨Nat.le_of_ble_eq_true rfl, Nat.le_of_ble_eq_true rfl⟩ rfl (Nat.le_of_ble_eq_true rfl) ⟨Nat.zero_le _, Nat.zero_le _⟩ ?_
      refine z_iload_n F dX4_tryChoice_129 rfl 1 rfl ?_
      refine z_iconst (y := (1 : Int32)) F dX4_tryChoice_130 rfl ?_
      refine z_iadd F dX4_tryChoice_131 ?_
      cases h
      exact z_reti F hr hk dX4_tryChoice_132
    · replace h := zif_f hc h
      refine z_iload_n F dX4_tryChoice_116 rfl 1 rfl ?_
      cases h
      exact z_reti F hr hk dX4_tryChoice_117
  · replace h := zif_t hc h
    refine z_aload_n F dX4_tryChoice_88 rfl 0 rfl ?_
    refine z_aload_n F dX4_tryChoice_89 rfl 0 rfl ?_
    refine z_iload_n F dX4_tryChoice_90 rfl 1 rfl ?_
    obtain ⟨r_6, v_5, hq91, h⟩ := zbind_ex h
    refine z_callVi F [.int x1] [zr G x0] (kX4_praisedTill x.2.1 G x0 t0 x1 v_2 r_6 v_5 hq91) mI_X4_praisedTill (c := 4) rfl t0 wM_X4_134 mi_X4_praisedTill sl_X4_praisedTill dX4_tryChoice_91 rfl ⟨Nat.le_of_ble_eq_true rfl, Nat.le_of_ble_eq_true rfl⟩ rfl (Nat.le_of_ble_eq_true rfl) ⟨Nat.zero_le _, Nat.zero_le _⟩ ?_
    refine zp_4_8 F t0 wF_X4_120 dX4_tryChoice_94 ?_
    obtain ⟨v_7, ev_7, h⟩ := zlet_ex h
    refine z_heap ev_7 ?_
    refine z_aload_n F dX4_tryChoice_97 rfl 0 rfl ?_
    refine z_aload_n F dX4_tryChoice_98 rfl 0 rfl ?_
    refine z_iload_n F dX4_tryChoice_99 rfl 1 rfl ?_
    refine z_iload_n F dX4_tryChoice_100 rfl 3 rfl ?_
    obtain ⟨r_9, v_8, hq101, h⟩ := zbind_ex h
    refine z_callVi F [.int x1, .int x3] [zr G x0] (kX4_wayTill x.2.1 G x0 t0 x1 x3 v_7 r_9 v_8 hq101) mI_X4_wayTill (c := 4) rfl t0 wM_X4_144 mi_X4_wayTill sl_X4_wayTill dX4_tryChoice_101 rfl ⟨Nat.le_of_ble_eq_true rfl, Nat.le_of_ble_eq_true rfl⟩ rfl (Nat.le_of_ble_eq_true rfl) ⟨Nat.zero_le _, Nat.zero_le _⟩ ?_
    refine zp_4_9 F t0 wF_X4_123 dX4_tryChoice_104 ?_
    obtain ⟨v_10, ev_10, h⟩ := zlet_ex h
    refine z_heap ev_10 ?_
    refine z_iload_n F dX4_tryChoice_107 rfl 1 rfl ?_
    cases h
    exact z_reti F hr hk dX4_tryChoice_108

def fX4_tryChoice (x0 : Nat) (x1 : Int32) (x2 : Int32) (x3 : Int32) (x4 : Int32) (v : zV) : Option (Int32 × zV) :=
  if x1 < (0 : Int32) then
    some ((-1 : Int32), v)
  else
    if (x1 + (1 : Int32)) < (Int32.ofNat (zlen (zrf x0 4))) then
      zix (x1 + (1 : Int32)) (zlen (zrf x0 4)) <|
      zix x1 (zlen (zrf x0 4)) <|
      zbindv (fX7_copy (zrf (zrf x0 4) (x1 + (1 : Int32)).toNatClampNeg) (zrf (zrf x0 4) (x1).toNatClampNeg) v) fun v_1 =>
      zbind (fX9_get (zrf x0 7) x1 v_1) fun r_3 v_2 =>
      if r_3 ≤ (0 : Int32) then
        fX4_tryChoice_66  x0 x1 x2 x3 (zrf (zrf x0 4) (x1 + (1 : Int32)).toNatClampNeg) v_2
      else
        zbind (fX9_get (zrf x0 7) x1 v_2) fun r_5 v_4 =>
        zbindv (fX7_praiseMore (zrf (zrf x0 4) (x1 + (1 : Int32)).toNatClampNeg) (r_5 - (1 : Int32)) x4 v_4) fun v_6 =>
        fX4_tryChoice_66  x0 x1 x2 x3 (zrf (zrf x0 4) (x1 + (1 : Int32)).toNatClampNeg) v_6
    else
      some ((-1 : Int32), v)
set_option maxRecDepth 4000 in
theorem kX4_tryChoice (l : Launch) (G : zG) (x0 : Nat) (t0 : zty G x0 1 4) (x1 : Int32) (x2 : Int32) (x3 : Int32) (x4 : Int32) (v : zV) (r : Int32) (w : zV) (h : fX4_tryChoice x0 x1 x2 x3 x4 v = some (r, w)) : zMet l yX4_tryChoice cX4_tryChoice 6 (Option.some FieldType.int) 6 193 0 0 [zr G x0, .int x1, .int x2, .int x3, .int x4] G v (some (.int r)) w := by
  refine zM_of (own := RX4) (by decide) rfl (Nat.le_of_ble_eq_true rfl) (fun x hl F hr hk hcs => ?_)
  subst hl
  refine z_ls [(0, zr G x0), (1, .int x1), (2, .int x2), (3, .int x3), (4, .int x4)] [0, 1, 2, 3, 4] rfl ?_
  unfold fX4_tryChoice at h
  refine z_iload_n F dX4_tryChoice_0 rfl 1 rfl ?_
  refine z_if_lt F 15 dX4_tryChoice_1 rfl (fun hc => ?_) (fun hc => ?_)
  · replace h := zif_t hc h
    refine z_iconst (y := (-1 : Int32)) F dX4_tryChoice_15 rfl ?_
    cases h
    exact z_reti F hr hk dX4_tryChoice_16
  · replace h := zif_f hc h
    refine z_iload_n F dX4_tryChoice_4 rfl 1 rfl ?_
    refine z_iconst (y := (1 : Int32)) F dX4_tryChoice_5 rfl ?_
    refine z_iadd F dX4_tryChoice_6 ?_
    refine z_aload_n F dX4_tryChoice_7 rfl 0 rfl ?_
    refine zg_4_4 F t0 wF_X4_18 dX4_tryChoice_8 ?_
    refine z_alen4 F (zt_f tc_4_4 t0) dX4_tryChoice_11 rfl ?_
    refine z_icmp_lt F 17 dX4_tryChoice_12 rfl (fun hc => ?_) (fun hc => ?_)
    · replace h := zif_t hc h
      refine z_aload_n F dX4_tryChoice_17 rfl 0 rfl ?_
      refine zg_4_4 F t0 wF_X4_18 dX4_tryChoice_18 ?_
      refine z_iload_n F dX4_tryChoice_21 rfl 1 rfl ?_
      refine z_iconst (y := (1 : Int32)) F dX4_tryChoice_22 rfl ?_
      refine z_iadd F dX4_tryChoice_23 ?_
      obtain ⟨hi24, h⟩ := zix_ex h
      refine z_aald4 F (zt_f tc_4_4 t0) dX4_tryChoice_24 hi24 ?_
      refine z_astore (n := 0) F [(5, zr G (zrf (zrf x0 4) (x1 + (1 : Int32)).toNatClampNeg)), (0, zr G x0), (1, .int x1), (2, .int x2), (3, .int x3), (4, .int x4)] dX4_tryChoice_25 (Nat.le_of_ble_eq_true rfl) rfl ?_
      refine z_aload F dX4_tryChoice_27 0 rfl ?_
      refine z_aload_n F dX4_tryChoice_29 rfl 1 rfl ?_
      refine zg_4_4 F t0 wF_X4_18 dX4_tryChoice_30 ?_
      refine z_iload_n F dX4_tryChoice_33 rfl 2 rfl ?_
      obtain ⟨hi34, h⟩ := zix_ex h
      refine z_aald4 F (zt_f tc_4_4 t0) dX4_tryChoice_34 hi34 ?_
      obtain ⟨v_1, hq35, h⟩ := zbindv_ex h
      refine z_callVv F [zr G (zrf (zrf x0 4) (x1).toNatClampNeg)] [] (kX7_copy x.2.1 G (zrf (zrf x0 4) (x1 + (1 : Int32)).toNatClampNeg) (zt_a tcA_4 (zt_f tc_4_4 t0) (zin_lt hi24)) (zrf (zrf x0 4) (x1).toNatClampNeg) (zt_a tcA_4 (zt_f tc_4_4 t0) (zin_lt hi34)) v v_1 hq35) mI_X7_copy (c := 7) rfl (zt_a tcA_4 (zt_f tc_4_4 t0) (zin_lt hi24)) wM_X4_43 mi_X7_copy sl_X7_copy dX4_tryChoice_35 rfl ⟨Nat.le_of_ble_eq_true rfl, Nat.le_of_ble_eq_true rfl⟩ rfl (Nat.le_of_ble_eq_true rfl) ⟨Nat.zero_le _, Nat.zero_le _⟩ ?_
      refine z_aload_n F dX4_tryChoice_38 rfl 1 rfl ?_
      refine zg_4_7 F t0 wF_X4_29 dX4_tryChoice_39 ?_
      refine z_iload_n F dX4_tryChoice_42 rfl 2 rfl ?_
      obtain ⟨r_3, v_2, hq43, h⟩ := zbind_ex h
      refine z_callSNi F [zr G (zrf x0 7), .int x1] [] (kX9_get x.2.1 G (zrf x0 7) (zt_f tc_4_7 t0) x1 v_1 r_3 v_2 hq43) mI_X9_get wN_X4_70 ms_X9_get dX4_tryChoice_43 rfl ⟨Nat.le_of_ble_eq_true rfl, Nat.le_of_ble_eq_true rfl⟩ rfl (Nat.le_of_ble_eq_true rfl) ⟨Nat.zero_le _, Nat.zero_le _⟩ ?_
      refine z_if_le F 66 dX4_tryChoice_46 rfl (fun hc => ?_) (fun hc => ?_)
      · replace h := zif_t hc h
        refine z_ls [(0, zr G x0), (1, .int x1), (2, .int x2), (3, .int x3), (5, zr G (zrf (zrf x0 4) (x1 + (1 : Int32)).toNatClampNeg))] [1, 2, 3, 4, 0] rfl ?_
        exact jX4_tryChoice_66 x G F hr hk r w   x0 t0 x1 x2 x3 (zrf (zrf x0 4) (x1 + (1 : Int32)).toNatClampNeg) (zt_a tcA_4 (zt_f tc_4_4 t0) (zin_lt hi24)) v_2 h
      · replace h := zif_f hc h
        refine z_aload F dX4_tryChoice_49 0 rfl ?_
        refine z_aload_n F dX4_tryChoice_51 rfl 1 rfl ?_
        refine zg_4_7 F t0 wF_X4_29 dX4_tryChoice_52 ?_
        refine z_iload_n F dX4_tryChoice_55 rfl 2 rfl ?_
        obtain ⟨r_5, v_4, hq56, h⟩ := zbind_ex h
        refine z_callSNi F [zr G (zrf x0 7), .int x1] [zr G (zrf (zrf x0 4) (x1 + (1 : Int32)).toNatClampNeg)] (kX9_get x.2.1 G (zrf x0 7) (zt_f tc_4_7 t0) x1 v_2 r_5 v_4 hq56) mI_X9_get wN_X4_70 ms_X9_get dX4_tryChoice_56 rfl ⟨Nat.le_of_ble_eq_true rfl, Nat.le_of_ble_eq_true rfl⟩ rfl (Nat.le_of_ble_eq_true rfl) ⟨Nat.zero_le _, Nat.zero_le _⟩ ?_
        refine z_iconst (y := (1 : Int32)) F dX4_tryChoice_59 rfl ?_
        refine z_isub F dX4_tryChoice_60 ?_
        refine z_iload F dX4_tryChoice_61 5 rfl ?_
        obtain ⟨v_6, hq63, h⟩ := zbindv_ex h
        refine z_callVv F [.int (r_5 - (1 : Int32)), .int x4] [] (kX7_praiseMore x.2.1 G (zrf (zrf x0 4) (x1 + (1 : Int32)).toNatClampNeg) (zt_a tcA_4 (zt_f tc_4_4 t0) (zin_lt hi24)) (r_5 - (1 : Int32)) x4 v_4 v_6 hq63) mI_X7_praiseMore (c := 7) rfl (zt_a tcA_4 (zt_f tc_4_4 t0) (zin_lt hi24)) wM_X4_138 mi_X7_praiseMore sl_X7_praiseMore dX4_tryChoice_63 rfl ⟨Nat.le_of_ble_eq_true rfl, Nat.le_of_ble_eq_true rfl⟩ rfl (Nat.le_of_ble_eq_true rfl) ⟨Nat.zero_le _, Nat.zero_le _⟩ ?_
        refine z_ls [(0, zr G x0), (1, .int x1), (2, .int x2), (3, .int x3), (5, zr G (zrf (zrf x0 4) (x1 + (1 : Int32)).toNatClampNeg))] [1, 2, 3, 4, 0] rfl ?_
        exact jX4_tryChoice_66 x G F hr hk r w   x0 t0 x1 x2 x3 (zrf (zrf x0 4) (x1 + (1 : Int32)).toNatClampNeg) (zt_a tcA_4 (zt_f tc_4_4 t0) (zin_lt hi24)) v_6 h
    · replace h := zif_f hc h
      refine z_iconst (y := (-1 : Int32)) F dX4_tryChoice_15 rfl ?_
      cases h
      exact z_reti F hr hk dX4_tryChoice_16

theorem dX4_waysToPraise_0 : decode cX4_waysToPraise 0 = .ok (.aload_n 0, 1) := by decide +kernel
theorem dX4_waysToPraise_1 : decode cX4_waysToPraise 1 = .ok (.iload_n 2, 1) := by decide +kernel
theorem dX4_waysToPraise_2 : decode cX4_waysToPraise 2 = .ok (.iconst 1, 1) := by decide +kernel
theorem dX4_waysToPraise_3 : decode cX4_waysToPraise 3 = .ok (.iadd, 1) := by decide +kernel
theorem dX4_waysToPraise_4 : decode cX4_waysToPraise 4 = .ok (.putfield 120, 3) := by decide +kernel
theorem dX4_waysToPraise_7 : decode cX4_waysToPraise 7 = .ok (.aload_n 0, 1) := by decide +kernel
theorem dX4_waysToPraise_8 : decode cX4_waysToPraise 8 = .ok (.iconst (-1), 1) := by decide +kernel
theorem dX4_waysToPraise_9 : decode cX4_waysToPraise 9 = .ok (.putfield 123, 3) := by decide +kernel
theorem dX4_waysToPraise_12 : decode cX4_waysToPraise 12 = .ok (.aload_n 0, 1) := by decide +kernel
theorem dX4_waysToPraise_13 : decode cX4_waysToPraise 13 = .ok (.getfield 18, 3) := by decide +kernel
theorem dX4_waysToPraise_16 : decode cX4_waysToPraise 16 = .ok (.iconst 0, 1) := by decide +kernel
theorem dX4_waysToPraise_17 : decode cX4_waysToPraise 17 = .ok (.aaload, 1) := by decide +kernel
theorem dX4_waysToPraise_18 : decode cX4_waysToPraise 18 = .ok (.aload_n 0, 1) := by decide +kernel
theorem dX4_waysToPraise_19 : decode cX4_waysToPraise 19 = .ok (.getfield 40, 3) := by decide +kernel
theorem dX4_waysToPraise_22 : decode cX4_waysToPraise 22 = .ok (.invokevirtual 43, 3) := by decide +kernel
theorem dX4_waysToPraise_25 : decode cX4_waysToPraise 25 = .ok (.aload_n 0, 1) := by decide +kernel
theorem dX4_waysToPraise_26 : decode cX4_waysToPraise 26 = .ok (.getfield 29, 3) := by decide +kernel
theorem dX4_waysToPraise_29 : decode cX4_waysToPraise 29 = .ok (.iconst 0, 1) := by decide +kernel
theorem dX4_waysToPraise_30 : decode cX4_waysToPraise 30 = .ok (.iconst (-1), 1) := by decide +kernel
theorem dX4_waysToPraise_31 : decode cX4_waysToPraise 31 = .ok (.invokestatic 99, 3) := by decide +kernel
theorem dX4_waysToPraise_34 : decode cX4_waysToPraise 34 = .ok (.iconst 0, 1) := by decide +kernel
theorem dX4_waysToPraise_35 : decode cX4_waysToPraise 35 = .ok (.istore 5, 2) := by decide +kernel
theorem dX4_waysToPraise_37 : decode cX4_waysToPraise 37 = .ok (.iconst 0, 1) := by decide +kernel
theorem dX4_waysToPraise_38 : decode cX4_waysToPraise 38 = .ok (.istore 6, 2) := by decide +kernel
theorem dX4_waysToPraise_40 : decode cX4_waysToPraise 40 = .ok (.iload 6, 2) := by decide +kernel
theorem dX4_waysToPraise_42 : decode cX4_waysToPraise 42 = .ok (.ldc 126, 2) := by decide +kernel
theorem dX4_waysToPraise_44 : decode cX4_waysToPraise 44 = .ok (.if_icmp .ge 76, 3) := by decide +kernel
theorem dX4_waysToPraise_47 : decode cX4_waysToPraise 47 = .ok (.iload 5, 2) := by decide +kernel
theorem dX4_waysToPraise_49 : decode cX4_waysToPraise 49 = .ok (.ifCond .lt 71, 3) := by decide +kernel
theorem dX4_waysToPraise_52 : decode cX4_waysToPraise 52 = .ok (.aload_n 0, 1) := by decide +kernel
theorem dX4_waysToPraise_53 : decode cX4_waysToPraise 53 = .ok (.getfield 29, 3) := by decide +kernel
theorem dX4_waysToPraise_56 : decode cX4_waysToPraise 56 = .ok (.iload 5, 2) := by decide +kernel
theorem dX4_waysToPraise_58 : decode cX4_waysToPraise 58 = .ok (.invokestatic 70, 3) := by decide +kernel
theorem dX4_waysToPraise_61 : decode cX4_waysToPraise 61 = .ok (.iconst 1, 1) := by decide +kernel
theorem dX4_waysToPraise_62 : decode cX4_waysToPraise 62 = .ok (.iadd, 1) := by decide +kernel
theorem dX4_waysToPraise_63 : decode cX4_waysToPraise 63 = .ok (.istore 7, 2) := by decide +kernel
theorem dX4_waysToPraise_65 : decode cX4_waysToPraise 65 = .ok (.aload_n 0, 1) := by decide +kernel
theorem dX4_waysToPraise_66 : decode cX4_waysToPraise 66 = .ok (.getfield 29, 3) := by decide +kernel
theorem dX4_waysToPraise_69 : decode cX4_waysToPraise 69 = .ok (.iload 5, 2) := by decide +kernel
theorem dX4_waysToPraise_71 : decode cX4_waysToPraise 71 = .ok (.iload 7, 2) := by decide +kernel
theorem dX4_waysToPraise_73 : decode cX4_waysToPraise 73 = .ok (.invokestatic 99, 3) := by decide +kernel
theorem dX4_waysToPraise_76 : decode cX4_waysToPraise 76 = .ok (.iload 7, 2) := by decide +kernel
theorem dX4_waysToPraise_78 : decode cX4_waysToPraise 78 = .ok (.aload_n 0, 1) := by decide +kernel
theorem dX4_waysToPraise_79 : decode cX4_waysToPraise 79 = .ok (.getfield 32, 3) := by decide +kernel
theorem dX4_waysToPraise_82 : decode cX4_waysToPraise 82 = .ok (.getfield 78, 3) := by decide +kernel
theorem dX4_waysToPraise_85 : decode cX4_waysToPraise 85 = .ok (.if_icmp .le 9, 3) := by decide +kernel
theorem dX4_waysToPraise_88 : decode cX4_waysToPraise 88 = .ok (.iinc 5 (-1), 3) := by decide +kernel
theorem dX4_waysToPraise_91 : decode cX4_waysToPraise 91 = .ok (.goto 23, 3) := by decide +kernel
theorem dX4_waysToPraise_94 : decode cX4_waysToPraise 94 = .ok (.aload_n 0, 1) := by decide +kernel
theorem dX4_waysToPraise_95 : decode cX4_waysToPraise 95 = .ok (.iload 5, 2) := by decide +kernel
theorem dX4_waysToPraise_97 : decode cX4_waysToPraise 97 = .ok (.invokevirtual 127, 3) := by decide +kernel
theorem dX4_waysToPraise_100 : decode cX4_waysToPraise 100 = .ok (.ifCond .eq 14, 3) := by decide +kernel
theorem dX4_waysToPraise_103 : decode cX4_waysToPraise 103 = .ok (.aload_n 0, 1) := by decide +kernel
theorem dX4_waysToPraise_104 : decode cX4_waysToPraise 104 = .ok (.iload 5, 2) := by decide +kernel
theorem dX4_waysToPraise_106 : decode cX4_waysToPraise 106 = .ok (.iload_n 1, 1) := by decide +kernel
theorem dX4_waysToPraise_107 : decode cX4_waysToPraise 107 = .ok (.iload_n 2, 1) := by decide +kernel
theorem dX4_waysToPraise_108 : decode cX4_waysToPraise 108 = .ok (.iload_n 3, 1) := by decide +kernel
theorem dX4_waysToPraise_109 : decode cX4_waysToPraise 109 = .ok (.invokevirtual 130, 3) := by decide +kernel
theorem dX4_waysToPraise_112 : decode cX4_waysToPraise 112 = .ok (.istore 5, 2) := by decide +kernel
theorem dX4_waysToPraise_114 : decode cX4_waysToPraise 114 = .ok (.iinc 6 1, 3) := by decide +kernel
theorem dX4_waysToPraise_117 : decode cX4_waysToPraise 117 = .ok (.goto (-77), 3) := by decide +kernel
theorem dX4_waysToPraise_120 : decode cX4_waysToPraise 120 = .ok (.aload_n 0, 1) := by decide +kernel
theorem dX4_waysToPraise_121 : decode cX4_waysToPraise 121 = .ok (.getfield 120, 3) := by decide +kernel
theorem dX4_waysToPraise_124 : decode cX4_waysToPraise 124 = .ok (.iload_n 2, 1) := by decide +kernel
theorem dX4_waysToPraise_125 : decode cX4_waysToPraise 125 = .ok (.if_icmp .le 5, 3) := by decide +kernel
theorem dX4_waysToPraise_128 : decode cX4_waysToPraise 128 = .ok (.iconst (-1), 1) := by decide +kernel
theorem dX4_waysToPraise_129 : decode cX4_waysToPraise 129 = .ok (.ireturn, 1) := by decide +kernel
theorem dX4_waysToPraise_130 : decode cX4_waysToPraise 130 = .ok (.iload 4, 2) := by decide +kernel
theorem dX4_waysToPraise_132 : decode cX4_waysToPraise 132 = .ok (.ifCond .ne 10, 3) := by decide +kernel
theorem dX4_waysToPraise_135 : decode cX4_waysToPraise 135 = .ok (.aload_n 0, 1) := by decide +kernel
theorem dX4_waysToPraise_136 : decode cX4_waysToPraise 136 = .ok (.getfield 120, 3) := by decide +kernel
theorem dX4_waysToPraise_139 : decode cX4_waysToPraise 139 = .ok (.goto 7, 3) := by decide +kernel
theorem dX4_waysToPraise_142 : decode cX4_waysToPraise 142 = .ok (.aload_n 0, 1) := by decide +kernel
theorem dX4_waysToPraise_143 : decode cX4_waysToPraise 143 = .ok (.getfield 123, 3) := by decide +kernel
theorem dX4_waysToPraise_146 : decode cX4_waysToPraise 146 = .ok (.ireturn, 1) := by decide +kernel
def fX4_waysToPraise_40  : Nat → Nat → Int32 → Int32 → Int32 → Int32 → Int32 → Int32 → zV → Option (Int32 × zV)
  | 0 => fun _ _ _ _ _ _ _ _ => none
  | n + 1 => fun x0 x1 x2 x3 x4 x5 x6 v =>
    if (1000000 : Int32) ≤ x6 then
      if (v x0 8) ≤ x2 then
        if x4 = (0 : Int32) then
          some (v x0 8, v)
        else
          some (v x0 9, v)
      else
        some ((-1 : Int32), v)
    else
      if x5 < (0 : Int32) then
        if (v x0 8) ≤ x2 then
          if x4 = (0 : Int32) then
            some (v x0 8, v)
          else
            some (v x0 9, v)
        else
          some ((-1 : Int32), v)
      else
        zbind (fX9_get (zrf x0 7) x5 v) fun r_2 v_1 =>
        zbindv (fX9_set (zrf x0 7) x5 (r_2 + (1 : Int32)) v_1) fun v_3 =>
        if (r_2 + (1 : Int32)) ≤ (v_3 (zrf x0 0) 1) then
          zbind (fX4_isWorthTrying x0 x5 v_3) fun r_5 v_4 =>
          if r_5 = (0 : Int32) then
            (fX4_waysToPraise_40 n) x0 x1 x2 x3 x4 x5 (x6 + (1 : Int32)) v_4
          else
            zbind (fX4_tryChoice x0 x5 x1 x2 x3 v_4) fun r_7 v_6 =>
            (fX4_waysToPraise_40 n) x0 x1 x2 x3 x4 r_7 (x6 + (1 : Int32)) v_6
        else
          (fX4_waysToPraise_40 n) x0 x1 x2 x3 x4 (x5 + (-1 : Int32)) (x6 + (1 : Int32)) v_3
set_option maxRecDepth 4000 in
theorem jX4_waysToPraise_40 (x : zCx) (G : zG) (F : zF x G cX4_waysToPraise 8 RX4 7 218) (hr : x.2.2.2.2.2.2.2.2.1.sig.returnType = (Option.some FieldType.int)) (hk : x.2.2.2.2.2.2.2.2.1.locks = false) (r : Int32) (w : zV)  : ∀ (n : Nat) (x0 : Nat) (t0 : zty G x0 1 4) (x1 : Int32) (x2 : Int32) (x3 : Int32) (x4 : Int32) (x5 : Int32) (x6 : Int32) (v : zV), fX4_waysToPraise_40 n x0 x1 x2 x3 x4 x5 x6 v = some (r, w) → zJ x G 8 (zQ x G (some (.int r)) w 0 0) 0 0 40 [(0, zr G x0), (1, .int x1), (2, .int x2), (3, .int x3), (4, .int x4), (5, .int x5), (6, .int x6)] [] v := by
  intro n
  induction n with
  | zero => intro x0 t0 x1 x2 x3 x4 x5 x6 v h; exact absurd h (by intro q; cases q)
  | succ n ih =>
    intro x0 t0 x1 x2 x3 x4 x5 x6 v h
    rw [fX4_waysToPraise_40] at h
    dsimp only at h
    refine z_iload F dX4_waysToPraise_40 6 rfl ?_
    refine z_ldc (y := (1000000 : Int32)) F kC_RX4_126 dX4_waysToPraise_42 ?_
    refine z_icmp_ge F 120 dX4_waysToPraise_44 rfl (fun hc => ?_) (fun hc => ?_)
    · replace h := zif_t hc h
      refine z_aload_n F dX4_waysToPraise_120 rfl 0 rfl ?_
      refine zg_4_8 F t0 wF_X4_120 dX4_waysToPraise_121 ?_
      refine z_iload_n F dX4_waysToPraise_124 rfl 2 rfl ?_
      refine z_icmp_le F 130 dX4_waysToPraise_125 rfl (fun hc => ?_) (fun hc => ?_)
      · replace h := zif_t hc h
        refine z_iload F dX4_waysToPraise_130 4 rfl ?_
        refine z_if_ne F 142 dX4_waysToPraise_132 rfl (fun hc => ?_) (fun hc => ?_)
        · replace h := zif_f hc h
          refine z_aload_n F dX4_waysToPraise_142 rfl 0 rfl ?_
          refine zg_4_9 F t0 wF_X4_123 dX4_waysToPraise_143 ?_
          cases h
          exact z_reti F hr hk dX4_waysToPraise_146
        · replace h := zif_t hc h
          refine z_aload_n F dX4_waysToPraise_135 rfl 0 rfl ?_
          refine zg_4_8 F t0 wF_X4_120 dX4_waysToPraise_136 ?_
          refine z_goto F 146 dX4_waysToPraise_139 rfl ?_
          cases h
          exact z_reti F hr hk dX4_waysToPraise_146
      · replace h := zif_f hc h
        refine z_iconst (y := (-1 : Int32)) F dX4_waysToPraise_128 rfl ?_
        cases h
        exact z_reti F hr hk dX4_waysToPraise_129
    · replace h := zif_f hc h
      refine z_iload F dX4_waysToPraise_47 5 rfl ?_
      refine z_if_lt F 120 dX4_waysToPraise_49 rfl (fun hc => ?_) (fun hc => ?_)
      · replace h := zif_t hc h
        refine z_aload_n F dX4_waysToPraise_120 rfl 0 rfl ?_
        refine zg_4_8 F t0 wF_X4_120 dX4_waysToPraise_121 ?_
        refine z_iload_n F dX4_waysToPraise_124 rfl 2 rfl ?_
        refine z_icmp_le F 130 dX4_waysToPraise_125 rfl (fun hc => ?_) (fun hc => ?_)
        · replace h := zif_t hc h
          refine z_iload F dX4_waysToPraise_130 4 rfl ?_
          refine z_if_ne F 142 dX4_waysToPraise_132 rfl (fun hc => ?_) (fun hc => ?_)
          · replace h := zif_f hc h
            refine z_aload_n F dX4_waysToPraise_142 rfl 0 rfl ?_
            refine zg_4_9 F t0 wF_X4_123 dX4_waysToPraise_143 ?_
            cases h
            exact z_reti F hr hk dX4_waysToPraise_146
          · replace h := zif_t hc h
            refine z_aload_n F dX4_waysToPraise_135 rfl 0 rfl ?_
            refine zg_4_8 F t0 wF_X4_120 dX4_waysToPraise_136 ?_
            refine z_goto F 146 dX4_waysToPraise_139 rfl ?_
            cases h
            exact z_reti F hr hk dX4_waysToPraise_146
        · replace h := zif_f hc h
          refine z_iconst (y := (-1 : Int32)) F dX4_waysToPraise_128 rfl ?_
          cases h
          exact z_reti F hr hk dX4_waysToPraise_129
      · replace h := zif_f hc h
        refine z_aload_n F dX4_waysToPraise_52 rfl 0 rfl ?_
        refine zg_4_7 F t0 wF_X4_29 dX4_waysToPraise_53 ?_
        refine z_iload F dX4_waysToPraise_56 5 rfl ?_
        obtain ⟨r_2, v_1, hq58, h⟩ := zbind_ex h
        refine z_callSNi F [zr G (zrf x0 7), .int x5] [] (kX9_get x.2.1 G (zrf x0 7) (zt_f tc_4_7 t0) x5 v r_2 v_1 hq58) mI_X9_get wN_X4_70 ms_X9_get dX4_waysToPraise_58 rfl ⟨Nat.le_of_ble_eq_true rfl, Nat.le_of_ble_eq_true rfl⟩ rfl (Nat.le_of_ble_eq_true rfl) ⟨Nat.zero_le _, Nat.zero_le _⟩ ?_
        refine z_iconst (y := (1 : Int32)) F dX4_waysToPraise_61 rfl ?_
        refine z_iadd F dX4_waysToPraise_62 ?_
        refine z_istore (n := 0) F [(7, .int (r_2 + (1 : Int32))), (0, zr G x0), (1, .int x1), (2, .int x2), (3, .int x3), (4, .int x4), (5, .int x5), (6, .int x6)] dX4_waysToPraise_63 (Nat.le_of_ble_eq_true rfl) rfl ?_
        refine z_aload_n F dX4_waysToPraise_65 rfl 1 rfl ?_
        refine zg_4_7 F t0 wF_X4_29 dX4_waysToPraise_66 ?_
        refine z_iload F dX4_waysToPraise_69 6 rfl ?_
        refine z_iload F dX4_waysToPraise_71 0 rfl ?_
        obtain ⟨v_3, hq73, h⟩ := zbindv_ex h
        refine z_callSNv F [zr G (zrf x0 7), .int x5, .int (r_2 + (1 : Int32))] [] (kX9_set x.2.1 G (zrf x0 7) (zt_f tc_4_7 t0) x5 (r_2 + (1 : Int32)) v_1 v_3 hq73) mI_X9_set wN_X4_99 ms_X9_set dX4_waysToPraise_73 rfl ⟨Nat.le_of_ble_eq_true rfl, Nat.le_of_ble_eq_true rfl⟩ rfl (Nat.le_of_ble_eq_true rfl) ⟨Nat.zero_le _, Nat.zero_le _⟩ ?_
        refine z_iload F dX4_waysToPraise_76 0 rfl ?_
        refine z_aload_n F dX4_waysToPraise_78 rfl 1 rfl ?_
        refine zg_4_0 F t0 wF_X4_32 dX4_waysToPraise_79 ?_
        refine zg_0_1 F (zt_f tc_4_0 t0) wF_X4_78 dX4_waysToPraise_82 ?_
        refine z_icmp_le F 94 dX4_waysToPraise_85 rfl (fun hc => ?_) (fun hc => ?_)
        · replace h := zif_t hc h
          refine z_aload_n F dX4_waysToPraise_94 rfl 1 rfl ?_
          refine z_iload F dX4_waysToPraise_95 6 rfl ?_
          obtain ⟨r_5, v_4, hq97, h⟩ := zbind_ex h
          refine z_callVi F [.int x5] [] (kX4_isWorthTrying x.2.1 G x0 t0 x5 v_3 r_5 v_4 hq97) mI_X4_isWorthTrying (c := 4) rfl t0 wM_X4_127 mi_X4_isWorthTrying sl_X4_isWorthTrying dX4_waysToPraise_97 rfl ⟨Nat.le_of_ble_eq_true rfl, Nat.le_of_ble_eq_true rfl⟩ rfl (Nat.le_of_ble_eq_true rfl) ⟨Nat.zero_le _, Nat.zero_le _⟩ ?_
          refine z_if_eq F 114 dX4_waysToPraise_100 rfl (fun hc => ?_) (fun hc => ?_)
          · replace h := zif_t hc h
            refine z_iinc F [(6, .int (x6 + (1 : Int32))), (7, .int (r_2 + (1 : Int32))), (0, zr G x0), (1, .int x1), (2, .int x2), (3, .int x3), (4, .int x4), (5, .int x5)] dX4_waysToPraise_114 7 rfl rfl (Nat.le_of_ble_eq_true rfl) rfl ?_
            refine z_goto F 40 dX4_waysToPraise_117 rfl ?_
            refine z_ls [(0, zr G x0), (1, .int x1), (2, .int x2), (3, .int x3), (4, .int x4), (5, .int x5), (6, .int (x6 + (1 : Int32)))] [2, 3, 4, 5, 6, 7, 0] rfl ?_
            exact ih x0 t0 x1 x2 x3 x4 x5 (x6 + (1 : Int32)) v_4 h
          · replace h := zif_f hc h
            refine z_aload_n F dX4_waysToPraise_103 rfl 1 rfl ?_
            refine z_iload F dX4_waysToPraise_104 6 rfl ?_
            refine z_iload_n F dX4_waysToPraise_106 rfl 2 rfl ?_
            refine z_iload_n F dX4_waysToPraise_107 rfl 3 rfl ?_
            refine z_iload_n F dX4_waysToPraise_108 rfl 4 rfl ?_
            obtain ⟨r_7, v_6, hq109, h⟩ := zbind_ex h
            refine z_callVi F [.int x5, .int x1, .int x2, .int x3] [] (kX4_tryChoice x.2.1 G x0 t0 x5 x1 x2 x3 v_4 r_7 v_6 hq109) mI_X4_tryChoice (c := 4) rfl t0 wM_X4_130 mi_X4_tryChoice sl_X4_tryChoice dX4_waysToPraise_109 rfl ⟨Nat.le_of_ble_eq_true rfl, Nat.le_of_ble_eq_true rfl⟩ rfl (Nat.le_of_ble_eq_true rfl) ⟨Nat.zero_le _, Nat.zero_le _⟩ ?_
            refine z_istore (n := 0) F [(5, .int r_7), (7, .int (r_2 + (1 : Int32))), (0, zr G x0), (1, .int x1), (2, .int x2), (3, .int x3), (4, .int x4), (6, .int x6)] dX4_waysToPraise_112 (Nat.le_of_ble_eq_true rfl) rfl ?_
            refine z_iinc F [(6, .int (x6 + (1 : Int32))), (5, .int r_7), (7, .int (r_2 + (1 : Int32))), (0, zr G x0), (1, .int x1), (2, .int x2), (3, .int x3), (4, .int x4)] dX4_waysToPraise_114 7 rfl rfl (Nat.le_of_ble_eq_true rfl) rfl ?_
            refine z_goto F 40 dX4_waysToPraise_117 rfl ?_
            refine z_ls [(0, zr G x0), (1, .int x1), (2, .int x2), (3, .int x3), (4, .int x4), (5, .int r_7), (6, .int (x6 + (1 : Int32)))] [3, 4, 5, 6, 7, 1, 0] rfl ?_
            exact ih x0 t0 x1 x2 x3 x4 r_7 (x6 + (1 : Int32)) v_6 h
        · replace h := zif_f hc h
          refine z_iinc F [(5, .int (x5 + (-1 : Int32))), (7, .int (r_2 + (1 : Int32))), (0, zr G x0), (1, .int x1), (2, .int x2), (3, .int x3), (4, .int x4), (6, .int x6)] dX4_waysToPraise_88 6 rfl rfl (Nat.le_of_ble_eq_true rfl) rfl ?_
          refine z_goto F 114 dX4_waysToPraise_91 rfl ?_
          refine z_iinc F [(6, .int (x6 + (1 : Int32))), (5, .int (x5 + (-1 : Int32))), (7, .int (r_2 + (1 : Int32))), (0, zr G x0), (1, .int x1), (2, .int x2), (3, .int x3), (4, .int x4)] dX4_waysToPraise_114 7 rfl rfl (Nat.le_of_ble_eq_true rfl) rfl ?_
          refine z_goto F 40 dX4_waysToPraise_117 rfl ?_
          refine z_ls [(0, zr G x0), (1, .int x1), (2, .int x2), (3, .int x3), (4, .int x4), (5, .int (x5 + (-1 : Int32))), (6, .int (x6 + (1 : Int32)))] [3, 4, 5, 6, 7, 1, 0] rfl ?_
          exact ih x0 t0 x1 x2 x3 x4 (x5 + (-1 : Int32)) (x6 + (1 : Int32)) v_3 h

def fX4_waysToPraise (x0 : Nat) (x1 : Int32) (x2 : Int32) (x3 : Int32) (x4 : Int32) (v : zV) : Option (Int32 × zV) :=
  zlet (zup v x0 8 (x2 + (1 : Int32))) fun v_1 =>
  zlet (zup v_1 x0 9 (-1 : Int32)) fun v_2 =>
  zix (0 : Int32) (zlen (zrf x0 4)) <|
  zbindv (fX7_copy (zrf (zrf x0 4) ((0 : Int32)).toNatClampNeg) (zrf x0 2) v_2) fun v_3 =>
  zbindv (fX9_set (zrf x0 7) (0 : Int32) (-1 : Int32) v_3) fun v_4 =>
  fX4_waysToPraise_40  zFU x0 x1 x2 x3 x4 (0 : Int32) (0 : Int32) v_4
set_option maxRecDepth 4000 in
theorem kX4_waysToPraise (l : Launch) (G : zG) (x0 : Nat) (t0 : zty G x0 1 4) (x1 : Int32) (x2 : Int32) (x3 : Int32) (x4 : Int32) (v : zV) (r : Int32) (w : zV) (h : fX4_waysToPraise x0 x1 x2 x3 x4 v = some (r, w)) : zMet l yX4_waysToPraise cX4_waysToPraise 8 (Option.some FieldType.int) 7 218 0 0 [zr G x0, .int x1, .int x2, .int x3, .int x4] G v (some (.int r)) w := by
  refine zM_of (own := RX4) (by decide) rfl (Nat.le_of_ble_eq_true rfl) (fun x hl F hr hk hcs => ?_)
  subst hl
  refine z_ls [(0, zr G x0), (1, .int x1), (2, .int x2), (3, .int x3), (4, .int x4)] [0, 1, 2, 3, 4] rfl ?_
  unfold fX4_waysToPraise at h
  refine z_aload_n F dX4_waysToPraise_0 rfl 0 rfl ?_
  refine z_iload_n F dX4_waysToPraise_1 rfl 2 rfl ?_
  refine z_iconst (y := (1 : Int32)) F dX4_waysToPraise_2 rfl ?_
  refine z_iadd F dX4_waysToPraise_3 ?_
  refine zp_4_8 F t0 wF_X4_120 dX4_waysToPraise_4 ?_
  obtain ⟨v_1, ev_1, h⟩ := zlet_ex h
  refine z_heap ev_1 ?_
  refine z_aload_n F dX4_waysToPraise_7 rfl 0 rfl ?_
  refine z_iconst (y := (-1 : Int32)) F dX4_waysToPraise_8 rfl ?_
  refine zp_4_9 F t0 wF_X4_123 dX4_waysToPraise_9 ?_
  obtain ⟨v_2, ev_2, h⟩ := zlet_ex h
  refine z_heap ev_2 ?_
  refine z_aload_n F dX4_waysToPraise_12 rfl 0 rfl ?_
  refine zg_4_4 F t0 wF_X4_18 dX4_waysToPraise_13 ?_
  refine z_iconst (y := (0 : Int32)) F dX4_waysToPraise_16 rfl ?_
  obtain ⟨hi17, h⟩ := zix_ex h
  refine z_aald4 F (zt_f tc_4_4 t0) dX4_waysToPraise_17 hi17 ?_
  refine z_aload_n F dX4_waysToPraise_18 rfl 0 rfl ?_
  refine zg_4_2 F t0 wF_X4_40 dX4_waysToPraise_19 ?_
  obtain ⟨v_3, hq22, h⟩ := zbindv_ex h
  refine z_callVv F [zr G (zrf x0 2)] [] (kX7_copy x.2.1 G (zrf (zrf x0 4) ((0 : Int32)).toNatClampNeg) (zt_a tcA_4 (zt_f tc_4_4 t0) (zin_lt hi17)) (zrf x0 2) (zt_f tc_4_2 t0) v_2 v_3 hq22) mI_X7_copy (c := 7) rfl (zt_a tcA_4 (zt_f tc_4_4 t0) (zin_lt hi17)) wM_X4_43 mi_X7_copy sl_X7_copy dX4_waysToPraise_22 rfl ⟨Nat.le_of_ble_eq_true rfl, Nat.le_of_ble_eq_true rfl⟩ rfl (Nat.le_of_ble_eq_true rfl) ⟨Nat.zero_le _, Nat.zero_le _⟩ ?_
  refine z_aload_n F dX4_waysToPraise_25 rfl 0 rfl ?_
  refine zg_4_7 F t0 wF_X4_29 dX4_waysToPraise_26 ?_
  refine z_iconst (y := (0 : Int32)) F dX4_waysToPraise_29 rfl ?_
  refine z_iconst (y := (-1 : Int32)) F dX4_waysToPraise_30 rfl ?_
  obtain ⟨v_4, hq31, h⟩ := zbindv_ex h
  refine z_callSNv F [zr G (zrf x0 7), .int (0 : Int32), .int (-1 : Int32)] [] (kX9_set x.2.1 G (zrf x0 7) (zt_f tc_4_7 t0) (0 : Int32) (-1 : Int32) v_3 v_4 hq31) mI_X9_set wN_X4_99 ms_X9_set dX4_waysToPraise_31 rfl ⟨Nat.le_of_ble_eq_true rfl, Nat.le_of_ble_eq_true rfl⟩ rfl (Nat.le_of_ble_eq_true rfl) ⟨Nat.zero_le _, Nat.zero_le _⟩ ?_
  refine z_iconst (y := (0 : Int32)) F dX4_waysToPraise_34 rfl ?_
  refine z_istore (n := 0) F [(5, .int (0 : Int32)), (0, zr G x0), (1, .int x1), (2, .int x2), (3, .int x3), (4, .int x4)] dX4_waysToPraise_35 (Nat.le_of_ble_eq_true rfl) rfl ?_
  refine z_iconst (y := (0 : Int32)) F dX4_waysToPraise_37 rfl ?_
  refine z_istore (n := 0) F [(6, .int (0 : Int32)), (5, .int (0 : Int32)), (0, zr G x0), (1, .int x1), (2, .int x2), (3, .int x3), (4, .int x4)] dX4_waysToPraise_38 (Nat.le_of_ble_eq_true rfl) rfl ?_
  refine z_ls [(0, zr G x0), (1, .int x1), (2, .int x2), (3, .int x3), (4, .int x4), (5, .int (0 : Int32)), (6, .int (0 : Int32))] [2, 3, 4, 5, 6, 1, 0] rfl ?_
  exact jX4_waysToPraise_40 x G F hr hk r w   zFU x0 t0 x1 x2 x3 x4 (0 : Int32) (0 : Int32) v_4 h

theorem dX4_drawDeaths_0 : decode cX4_drawDeaths 0 = .ok (.iload_n 1, 1) := by decide +kernel
theorem dX4_drawDeaths_1 : decode cX4_drawDeaths 1 = .ok (.istore_n 3, 1) := by decide +kernel
theorem dX4_drawDeaths_2 : decode cX4_drawDeaths 2 = .ok (.iconst 0, 1) := by decide +kernel
theorem dX4_drawDeaths_3 : decode cX4_drawDeaths 3 = .ok (.istore 4, 2) := by decide +kernel
theorem dX4_drawDeaths_5 : decode cX4_drawDeaths 5 = .ok (.iconst 0, 1) := by decide +kernel
theorem dX4_drawDeaths_6 : decode cX4_drawDeaths 6 = .ok (.istore 5, 2) := by decide +kernel
theorem dX4_drawDeaths_8 : decode cX4_drawDeaths 8 = .ok (.iload 5, 2) := by decide +kernel
theorem dX4_drawDeaths_10 : decode cX4_drawDeaths 10 = .ok (.aload_n 0, 1) := by decide +kernel
theorem dX4_drawDeaths_11 : decode cX4_drawDeaths 11 = .ok (.getfield 12, 3) := by decide +kernel
theorem dX4_drawDeaths_14 : decode cX4_drawDeaths 14 = .ok (.getfield 57, 3) := by decide +kernel
theorem dX4_drawDeaths_17 : decode cX4_drawDeaths 17 = .ok (.if_icmp .ge 54, 3) := by decide +kernel
theorem dX4_drawDeaths_20 : decode cX4_drawDeaths 20 = .ok (.iload_n 3, 1) := by decide +kernel
theorem dX4_drawDeaths_21 : decode cX4_drawDeaths 21 = .ok (.ldc 175, 2) := by decide +kernel
theorem dX4_drawDeaths_23 : decode cX4_drawDeaths 23 = .ok (.imul, 1) := by decide +kernel
theorem dX4_drawDeaths_24 : decode cX4_drawDeaths 24 = .ok (.sipush 12345, 3) := by decide +kernel
theorem dX4_drawDeaths_27 : decode cX4_drawDeaths 27 = .ok (.iadd, 1) := by decide +kernel
theorem dX4_drawDeaths_28 : decode cX4_drawDeaths 28 = .ok (.istore_n 3, 1) := by decide +kernel
theorem dX4_drawDeaths_29 : decode cX4_drawDeaths 29 = .ok (.iload_n 3, 1) := by decide +kernel
theorem dX4_drawDeaths_30 : decode cX4_drawDeaths 30 = .ok (.bipush 16, 2) := by decide +kernel
theorem dX4_drawDeaths_32 : decode cX4_drawDeaths 32 = .ok (.iushr, 1) := by decide +kernel
theorem dX4_drawDeaths_33 : decode cX4_drawDeaths 33 = .ok (.sipush 32767, 3) := by decide +kernel
theorem dX4_drawDeaths_36 : decode cX4_drawDeaths 36 = .ok (.iand, 1) := by decide +kernel
theorem dX4_drawDeaths_37 : decode cX4_drawDeaths 37 = .ok (.bipush 16, 2) := by decide +kernel
theorem dX4_drawDeaths_39 : decode cX4_drawDeaths 39 = .ok (.irem, 1) := by decide +kernel
theorem dX4_drawDeaths_40 : decode cX4_drawDeaths 40 = .ok (.iload_n 2, 1) := by decide +kernel
theorem dX4_drawDeaths_41 : decode cX4_drawDeaths 41 = .ok (.if_icmp .ge 24, 3) := by decide +kernel
theorem dX4_drawDeaths_44 : decode cX4_drawDeaths 44 = .ok (.aload_n 0, 1) := by decide +kernel
theorem dX4_drawDeaths_45 : decode cX4_drawDeaths 45 = .ok (.getfield 26, 3) := by decide +kernel
theorem dX4_drawDeaths_48 : decode cX4_drawDeaths 48 = .ok (.iload 4, 2) := by decide +kernel
theorem dX4_drawDeaths_50 : decode cX4_drawDeaths 50 = .ok (.aload_n 0, 1) := by decide +kernel
theorem dX4_drawDeaths_51 : decode cX4_drawDeaths 51 = .ok (.getfield 12, 3) := by decide +kernel
theorem dX4_drawDeaths_54 : decode cX4_drawDeaths 54 = .ok (.iload 5, 2) := by decide +kernel
theorem dX4_drawDeaths_56 : decode cX4_drawDeaths 56 = .ok (.invokevirtual 176, 3) := by decide +kernel
theorem dX4_drawDeaths_59 : decode cX4_drawDeaths 59 = .ok (.invokestatic 99, 3) := by decide +kernel
theorem dX4_drawDeaths_62 : decode cX4_drawDeaths 62 = .ok (.iinc 4 1, 3) := by decide +kernel
theorem dX4_drawDeaths_65 : decode cX4_drawDeaths 65 = .ok (.iinc 5 1, 3) := by decide +kernel
theorem dX4_drawDeaths_68 : decode cX4_drawDeaths 68 = .ok (.goto (-60), 3) := by decide +kernel
theorem dX4_drawDeaths_71 : decode cX4_drawDeaths 71 = .ok (.iconst 0, 1) := by decide +kernel
theorem dX4_drawDeaths_72 : decode cX4_drawDeaths 72 = .ok (.istore 5, 2) := by decide +kernel
theorem dX4_drawDeaths_74 : decode cX4_drawDeaths 74 = .ok (.iload 5, 2) := by decide +kernel
theorem dX4_drawDeaths_76 : decode cX4_drawDeaths 76 = .ok (.iload 4, 2) := by decide +kernel
theorem dX4_drawDeaths_78 : decode cX4_drawDeaths 78 = .ok (.if_icmp .ge 30, 3) := by decide +kernel
theorem dX4_drawDeaths_81 : decode cX4_drawDeaths 81 = .ok (.aload_n 0, 1) := by decide +kernel
theorem dX4_drawDeaths_82 : decode cX4_drawDeaths 82 = .ok (.getfield 36, 3) := by decide +kernel
theorem dX4_drawDeaths_85 : decode cX4_drawDeaths 85 = .ok (.aload_n 0, 1) := by decide +kernel
theorem dX4_drawDeaths_86 : decode cX4_drawDeaths 86 = .ok (.getfield 12, 3) := by decide +kernel
theorem dX4_drawDeaths_89 : decode cX4_drawDeaths 89 = .ok (.aload_n 0, 1) := by decide +kernel
theorem dX4_drawDeaths_90 : decode cX4_drawDeaths 90 = .ok (.getfield 26, 3) := by decide +kernel
theorem dX4_drawDeaths_93 : decode cX4_drawDeaths 93 = .ok (.iload 5, 2) := by decide +kernel
theorem dX4_drawDeaths_95 : decode cX4_drawDeaths 95 = .ok (.invokestatic 70, 3) := by decide +kernel
theorem dX4_drawDeaths_98 : decode cX4_drawDeaths 98 = .ok (.invokevirtual 74, 3) := by decide +kernel
theorem dX4_drawDeaths_101 : decode cX4_drawDeaths 101 = .ok (.pop, 1) := by decide +kernel
theorem dX4_drawDeaths_102 : decode cX4_drawDeaths 102 = .ok (.iinc 5 1, 3) := by decide +kernel
theorem dX4_drawDeaths_105 : decode cX4_drawDeaths 105 = .ok (.goto (-31), 3) := by decide +kernel
theorem dX4_drawDeaths_108 : decode cX4_drawDeaths 108 = .ok (.iload_n 3, 1) := by decide +kernel
theorem dX4_drawDeaths_109 : decode cX4_drawDeaths 109 = .ok (.ireturn, 1) := by decide +kernel
def fX4_drawDeaths_74  : Nat → Nat → Int32 → Int32 → Int32 → zV → Option (Int32 × zV)
  | 0 => fun _ _ _ _ _ => none
  | n + 1 => fun x0 x3 x4 x5 v =>
    if x4 ≤ x5 then
      some (x3, v)
    else
      zbind (fX9_get (zrf x0 6) x5 v) fun r_2 v_1 =>
      zbind (fX2_kill (zrf x0 1) (zrf x0 3) r_2 v_1) fun r_4 v_3 =>
      (fX4_drawDeaths_74 n) x0 x3 x4 (x5 + (1 : Int32)) v_3
set_option maxRecDepth 4000 in
theorem jX4_drawDeaths_74 (x : zCx) (G : zG) (F : zF x G cX4_drawDeaths 6 RX4 5 170) (hr : x.2.2.2.2.2.2.2.2.1.sig.returnType = (Option.some FieldType.int)) (hk : x.2.2.2.2.2.2.2.2.1.locks = false) (r : Int32) (w : zV)  : ∀ (n : Nat) (x0 : Nat) (t0 : zty G x0 1 4) (x3 : Int32) (x4 : Int32) (x5 : Int32) (v : zV), fX4_drawDeaths_74 n x0 x3 x4 x5 v = some (r, w) → zJ x G 6 (zQ x G (some (.int r)) w 0 0) 0 0 74 [(0, zr G x0), (3, .int x3), (4, .int x4), (5, .int x5)] [] v := by
  intro n
  induction n with
  | zero => intro x0 t0 x3 x4 x5 v h; exact absurd h (by intro q; cases q)
  | succ n ih =>
    intro x0 t0 x3 x4 x5 v h
    rw [fX4_drawDeaths_74] at h
    dsimp only at h
    refine z_iload F dX4_drawDeaths_74 3 rfl ?_
    refine z_iload F dX4_drawDeaths_76 2 rfl ?_
    refine z_icmp_ge F 108 dX4_drawDeaths_78 rfl (fun hc => ?_) (fun hc => ?_)
    · replace h := zif_t hc h
      refine z_iload_n F dX4_drawDeaths_108 rfl 1 rfl ?_
      cases h
      exact z_reti F hr hk dX4_drawDeaths_109
    · replace h := zif_f hc h
      refine z_aload_n F dX4_drawDeaths_81 rfl 0 rfl ?_
      refine zg_4_1 F t0 wF_X4_36 dX4_drawDeaths_82 ?_
      refine z_aload_n F dX4_drawDeaths_85 rfl 0 rfl ?_
      refine zg_4_3 F t0 wF_X4_12 dX4_drawDeaths_86 ?_
      refine z_aload_n F dX4_drawDeaths_89 rfl 0 rfl ?_
      refine zg_4_6 F t0 wF_X4_26 dX4_drawDeaths_90 ?_
      refine z_iload F dX4_drawDeaths_93 3 rfl ?_
      obtain ⟨r_2, v_1, hq95, h⟩ := zbind_ex h
      refine z_callSNi F [zr G (zrf x0 6), .int x5] [zr G (zrf x0 3), zr G (zrf x0 1)] (kX9_get x.2.1 G (zrf x0 6) (zt_f tc_4_6 t0) x5 v r_2 v_1 hq95) mI_X9_get wN_X4_70 ms_X9_get dX4_drawDeaths_95 rfl ⟨Nat.le_of_ble_eq_true rfl, Nat.le_of_ble_eq_true rfl⟩ rfl (Nat.le_of_ble_eq_true rfl) ⟨Nat.zero_le _, Nat.zero_le _⟩ ?_
      obtain ⟨r_4, v_3, hq98, h⟩ := zbind_ex h
      refine z_callVi F [zr G (zrf x0 3), .int r_2] [] (kX2_kill x.2.1 G (zrf x0 1) (zt_f tc_4_1 t0) (zrf x0 3) (zt_f tc_4_3 t0) r_2 v_1 r_4 v_3 hq98) mI_X2_kill (c := 2) rfl (zt_f tc_4_1 t0) wM_X4_74 mi_X2_kill sl_X2_kill dX4_drawDeaths_98 rfl ⟨Nat.le_of_ble_eq_true rfl, Nat.le_of_ble_eq_true rfl⟩ rfl (Nat.le_of_ble_eq_true rfl) ⟨Nat.zero_le _, Nat.zero_le _⟩ ?_
      refine z_pop F dX4_drawDeaths_101 rfl ?_
      refine z_iinc F [(5, .int (x5 + (1 : Int32))), (0, zr G x0), (3, .int x3), (4, .int x4)] dX4_drawDeaths_102 3 rfl rfl (Nat.le_of_ble_eq_true rfl) rfl ?_
      refine z_goto F 74 dX4_drawDeaths_105 rfl ?_
      refine z_ls [(0, zr G x0), (3, .int x3), (4, .int x4), (5, .int (x5 + (1 : Int32)))] [1, 2, 3, 0] rfl ?_
      exact ih x0 t0 x3 x4 (x5 + (1 : Int32)) v_3 h

def fX4_drawDeaths_8  : Nat → Nat → Int32 → Int32 → Int32 → Int32 → zV → Option (Int32 × zV)
  | 0 => fun _ _ _ _ _ _ => none
  | n + 1 => fun x0 x2 x3 x4 x5 v =>
    if (v (zrf x0 3) 1) ≤ x5 then
      fX4_drawDeaths_74  zFU x0 x3 x4 (0 : Int32) v
    else
      if x2 ≤ (((((((x3 * (1103515245 : Int32)) + (12345 : Int32))).toUInt32 >>> (((16 : Int32)).toUInt32 &&& Int32.toUInt32 31)).toInt32) &&& (32767 : Int32)) - ((((((x3 * (1103515245 : Int32)) + (12345 : Int32))).toUInt32 >>> (((16 : Int32)).toUInt32 &&& Int32.toUInt32 31)).toInt32) &&& (32767 : Int32)) / (16 : Int32) * (16 : Int32)) then
        (fX4_drawDeaths_8 n) x0 x2 ((x3 * (1103515245 : Int32)) + (12345 : Int32)) x4 (x5 + (1 : Int32)) v
      else
        zbind (fX7_onChair (zrf x0 3) x5 v) fun r_2 v_1 =>
        zbindv (fX9_set (zrf x0 6) x4 r_2 v_1) fun v_3 =>
        (fX4_drawDeaths_8 n) x0 x2 ((x3 * (1103515245 : Int32)) + (12345 : Int32)) (x4 + (1 : Int32)) (x5 + (1 : Int32)) v_3
set_option maxRecDepth 4000 in
theorem jX4_drawDeaths_8 (x : zCx) (G : zG) (F : zF x G cX4_drawDeaths 6 RX4 5 170) (hr : x.2.2.2.2.2.2.2.2.1.sig.returnType = (Option.some FieldType.int)) (hk : x.2.2.2.2.2.2.2.2.1.locks = false) (r : Int32) (w : zV)  : ∀ (n : Nat) (x0 : Nat) (t0 : zty G x0 1 4) (x2 : Int32) (x3 : Int32) (x4 : Int32) (x5 : Int32) (v : zV), fX4_drawDeaths_8 n x0 x2 x3 x4 x5 v = some (r, w) → zJ x G 6 (zQ x G (some (.int r)) w 0 0) 0 0 8 [(0, zr G x0), (2, .int x2), (3, .int x3), (4, .int x4), (5, .int x5)] [] v := by
  intro n
  induction n with
  | zero => intro x0 t0 x2 x3 x4 x5 v h; exact absurd h (by intro q; cases q)
  | succ n ih =>
    intro x0 t0 x2 x3 x4 x5 v h
    rw [fX4_drawDeaths_8] at h
    dsimp only at h
    refine z_iload F dX4_drawDeaths_8 4 rfl ?_
    refine z_aload_n F dX4_drawDeaths_10 rfl 0 rfl ?_
    refine zg_4_3 F t0 wF_X4_12 dX4_drawDeaths_11 ?_
    refine zg_7_1 F (zt_f tc_4_3 t0) wF_X4_57 dX4_drawDeaths_14 ?_
    refine z_icmp_ge F 71 dX4_drawDeaths_17 rfl (fun hc => ?_) (fun hc => ?_)
    · replace h := zif_t hc h
      refine z_iconst (y := (0 : Int32)) F dX4_drawDeaths_71 rfl ?_
      refine z_istore (n := 0) F [(5, .int (0 : Int32)), (0, zr G x0), (2, .int x2), (3, .int x3), (4, .int x4)] dX4_drawDeaths_72 (Nat.le_of_ble_eq_true rfl) rfl ?_
      refine z_ls [(0, zr G x0), (3, .int x3), (4, .int x4), (5, .int (0 : Int32))] [1, 3, 4, 0] rfl ?_
      exact jX4_drawDeaths_74 x G F hr hk r w   zFU x0 t0 x3 x4 (0 : Int32) v h
    · replace h := zif_f hc h
      refine z_iload_n F dX4_drawDeaths_20 rfl 2 rfl ?_
      refine z_ldc (y := (1103515245 : Int32)) F kC_RX4_175 dX4_drawDeaths_21 ?_
      refine z_imul F dX4_drawDeaths_23 ?_
      refine z_sipush (y := (12345 : Int32)) F dX4_drawDeaths_24 rfl ?_
      refine z_iadd F dX4_drawDeaths_27 ?_
      refine z_istore_n F [(3, .int ((x3 * (1103515245 : Int32)) + (12345 : Int32))), (0, zr G x0), (2, .int x2), (4, .int x4), (5, .int x5)] dX4_drawDeaths_28 rfl (Nat.le_of_ble_eq_true rfl) rfl ?_
      refine z_iload_n F dX4_drawDeaths_29 rfl 0 rfl ?_
      refine z_bipush (y := (16 : Int32)) F dX4_drawDeaths_30 rfl ?_
      refine z_iushr F dX4_drawDeaths_32 ?_
      refine z_sipush (y := (32767 : Int32)) F dX4_drawDeaths_33 rfl ?_
      refine z_iand F dX4_drawDeaths_36 ?_
      refine z_bipush (y := (16 : Int32)) F dX4_drawDeaths_37 rfl ?_
      refine z_irem F dX4_drawDeaths_39 (by decide) ?_
      refine z_iload_n F dX4_drawDeaths_40 rfl 2 rfl ?_
      refine z_icmp_ge F 65 dX4_drawDeaths_41 rfl (fun hc => ?_) (fun hc => ?_)
      · replace h := zif_t hc h
        refine z_iinc F [(5, .int (x5 + (1 : Int32))), (3, .int ((x3 * (1103515245 : Int32)) + (12345 : Int32))), (0, zr G x0), (2, .int x2), (4, .int x4)] dX4_drawDeaths_65 4 rfl rfl (Nat.le_of_ble_eq_true rfl) rfl ?_
        refine z_goto F 8 dX4_drawDeaths_68 rfl ?_
        refine z_ls [(0, zr G x0), (2, .int x2), (3, .int ((x3 * (1103515245 : Int32)) + (12345 : Int32))), (4, .int x4), (5, .int (x5 + (1 : Int32)))] [2, 3, 1, 4, 0] rfl ?_
        exact ih x0 t0 x2 ((x3 * (1103515245 : Int32)) + (12345 : Int32)) x4 (x5 + (1 : Int32)) v h
      · replace h := zif_f hc h
        refine z_aload_n F dX4_drawDeaths_44 rfl 1 rfl ?_
        refine zg_4_6 F t0 wF_X4_26 dX4_drawDeaths_45 ?_
        refine z_iload F dX4_drawDeaths_48 3 rfl ?_
        refine z_aload_n F dX4_drawDeaths_50 rfl 1 rfl ?_
        refine zg_4_3 F t0 wF_X4_12 dX4_drawDeaths_51 ?_
        refine z_iload F dX4_drawDeaths_54 4 rfl ?_
        obtain ⟨r_2, v_1, hq56, h⟩ := zbind_ex h
        refine z_callVi F [.int x5] [.int x4, zr G (zrf x0 6)] (kX7_onChair x.2.1 G (zrf x0 3) (zt_f tc_4_3 t0) x5 v r_2 v_1 hq56) mI_X7_onChair (c := 7) rfl (zt_f tc_4_3 t0) wM_X4_176 mi_X7_onChair sl_X7_onChair dX4_drawDeaths_56 rfl ⟨Nat.le_of_ble_eq_true rfl, Nat.le_of_ble_eq_true rfl⟩ rfl (Nat.le_of_ble_eq_true rfl) ⟨Nat.zero_le _, Nat.zero_le _⟩ ?_
        obtain ⟨v_3, hq59, h⟩ := zbindv_ex h
        refine z_callSNv F [zr G (zrf x0 6), .int x4, .int r_2] [] (kX9_set x.2.1 G (zrf x0 6) (zt_f tc_4_6 t0) x4 r_2 v_1 v_3 hq59) mI_X9_set wN_X4_99 ms_X9_set dX4_drawDeaths_59 rfl ⟨Nat.le_of_ble_eq_true rfl, Nat.le_of_ble_eq_true rfl⟩ rfl (Nat.le_of_ble_eq_true rfl) ⟨Nat.zero_le _, Nat.zero_le _⟩ ?_
        refine z_iinc F [(4, .int (x4 + (1 : Int32))), (3, .int ((x3 * (1103515245 : Int32)) + (12345 : Int32))), (0, zr G x0), (2, .int x2), (5, .int x5)] dX4_drawDeaths_62 3 rfl rfl (Nat.le_of_ble_eq_true rfl) rfl ?_
        refine z_iinc F [(5, .int (x5 + (1 : Int32))), (4, .int (x4 + (1 : Int32))), (3, .int ((x3 * (1103515245 : Int32)) + (12345 : Int32))), (0, zr G x0), (2, .int x2)] dX4_drawDeaths_65 4 rfl rfl (Nat.le_of_ble_eq_true rfl) rfl ?_
        refine z_goto F 8 dX4_drawDeaths_68 rfl ?_
        refine z_ls [(0, zr G x0), (2, .int x2), (3, .int ((x3 * (1103515245 : Int32)) + (12345 : Int32))), (4, .int (x4 + (1 : Int32))), (5, .int (x5 + (1 : Int32)))] [3, 4, 2, 1, 0] rfl ?_
        exact ih x0 t0 x2 ((x3 * (1103515245 : Int32)) + (12345 : Int32)) (x4 + (1 : Int32)) (x5 + (1 : Int32)) v_3 h

def fX4_drawDeaths (x0 : Nat) (x1 : Int32) (x2 : Int32) (v : zV) : Option (Int32 × zV) :=
  fX4_drawDeaths_8  zFU x0 x2 x1 (0 : Int32) (0 : Int32) v
set_option maxRecDepth 4000 in
theorem kX4_drawDeaths (l : Launch) (G : zG) (x0 : Nat) (t0 : zty G x0 1 4) (x1 : Int32) (x2 : Int32) (v : zV) (r : Int32) (w : zV) (h : fX4_drawDeaths x0 x1 x2 v = some (r, w)) : zMet l yX4_drawDeaths cX4_drawDeaths 6 (Option.some FieldType.int) 5 170 0 0 [zr G x0, .int x1, .int x2] G v (some (.int r)) w := by
  refine zM_of (own := RX4) (by decide) rfl (Nat.le_of_ble_eq_true rfl) (fun x hl F hr hk hcs => ?_)
  subst hl
  refine z_ls [(0, zr G x0), (1, .int x1), (2, .int x2)] [0, 1, 2] rfl ?_
  unfold fX4_drawDeaths at h
  refine z_iload_n F dX4_drawDeaths_0 rfl 1 rfl ?_
  refine z_istore_n F [(3, .int x1), (0, zr G x0), (1, .int x1), (2, .int x2)] dX4_drawDeaths_1 rfl (Nat.le_of_ble_eq_true rfl) rfl ?_
  refine z_iconst (y := (0 : Int32)) F dX4_drawDeaths_2 rfl ?_
  refine z_istore (n := 0) F [(4, .int (0 : Int32)), (3, .int x1), (0, zr G x0), (1, .int x1), (2, .int x2)] dX4_drawDeaths_3 (Nat.le_of_ble_eq_true rfl) rfl ?_
  refine z_iconst (y := (0 : Int32)) F dX4_drawDeaths_5 rfl ?_
  refine z_istore (n := 0) F [(5, .int (0 : Int32)), (4, .int (0 : Int32)), (3, .int x1), (0, zr G x0), (1, .int x1), (2, .int x2)] dX4_drawDeaths_6 (Nat.le_of_ble_eq_true rfl) rfl ?_
  refine z_ls [(0, zr G x0), (2, .int x2), (3, .int x1), (4, .int (0 : Int32)), (5, .int (0 : Int32))] [3, 5, 2, 1, 0] rfl ?_
  exact jX4_drawDeaths_8 x G F hr hk r w   zFU x0 t0 x2 x1 (0 : Int32) (0 : Int32) v h

theorem dX4_playFate_0 : decode cX4_playFate 0 = .ok (.aload_n 0, 1) := by decide +kernel
theorem dX4_playFate_1 : decode cX4_playFate 1 = .ok (.getfield 12, 3) := by decide +kernel
theorem dX4_playFate_4 : decode cX4_playFate 4 = .ok (.aload_n 0, 1) := by decide +kernel
theorem dX4_playFate_5 : decode cX4_playFate 5 = .ok (.getfield 40, 3) := by decide +kernel
theorem dX4_playFate_8 : decode cX4_playFate 8 = .ok (.invokevirtual 43, 3) := by decide +kernel
theorem dX4_playFate_11 : decode cX4_playFate 11 = .ok (.iload_n 1, 1) := by decide +kernel
theorem dX4_playFate_12 : decode cX4_playFate 12 = .ok (.istore 4, 2) := by decide +kernel
theorem dX4_playFate_14 : decode cX4_playFate 14 = .ok (.iconst 0, 1) := by decide +kernel
theorem dX4_playFate_15 : decode cX4_playFate 15 = .ok (.istore 5, 2) := by decide +kernel
theorem dX4_playFate_17 : decode cX4_playFate 17 = .ok (.iload 5, 2) := by decide +kernel
theorem dX4_playFate_19 : decode cX4_playFate 19 = .ok (.iload_n 3, 1) := by decide +kernel
theorem dX4_playFate_20 : decode cX4_playFate 20 = .ok (.if_icmp .ge 41, 3) := by decide +kernel
theorem dX4_playFate_23 : decode cX4_playFate 23 = .ok (.aload_n 0, 1) := by decide +kernel
theorem dX4_playFate_24 : decode cX4_playFate 24 = .ok (.getfield 36, 3) := by decide +kernel
theorem dX4_playFate_27 : decode cX4_playFate 27 = .ok (.aload_n 0, 1) := by decide +kernel
theorem dX4_playFate_28 : decode cX4_playFate 28 = .ok (.getfield 12, 3) := by decide +kernel
theorem dX4_playFate_31 : decode cX4_playFate 31 = .ok (.invokevirtual 90, 3) := by decide +kernel
theorem dX4_playFate_34 : decode cX4_playFate 34 = .ok (.aload_n 0, 1) := by decide +kernel
theorem dX4_playFate_35 : decode cX4_playFate 35 = .ok (.iload 4, 2) := by decide +kernel
theorem dX4_playFate_37 : decode cX4_playFate 37 = .ok (.iload_n 2, 1) := by decide +kernel
theorem dX4_playFate_38 : decode cX4_playFate 38 = .ok (.invokevirtual 172, 3) := by decide +kernel
theorem dX4_playFate_41 : decode cX4_playFate 41 = .ok (.istore 4, 2) := by decide +kernel
theorem dX4_playFate_43 : decode cX4_playFate 43 = .ok (.aload_n 0, 1) := by decide +kernel
theorem dX4_playFate_44 : decode cX4_playFate 44 = .ok (.getfield 36, 3) := by decide +kernel
theorem dX4_playFate_47 : decode cX4_playFate 47 = .ok (.aload_n 0, 1) := by decide +kernel
theorem dX4_playFate_48 : decode cX4_playFate 48 = .ok (.getfield 12, 3) := by decide +kernel
theorem dX4_playFate_51 : decode cX4_playFate 51 = .ok (.invokevirtual 141, 3) := by decide +kernel
theorem dX4_playFate_54 : decode cX4_playFate 54 = .ok (.pop, 1) := by decide +kernel
theorem dX4_playFate_55 : decode cX4_playFate 55 = .ok (.iinc 5 1, 3) := by decide +kernel
theorem dX4_playFate_58 : decode cX4_playFate 58 = .ok (.goto (-41), 3) := by decide +kernel
theorem dX4_playFate_61 : decode cX4_playFate 61 = .ok (.return_, 1) := by decide +kernel
def fX4_playFate_17  : Nat → Nat → Int32 → Int32 → Int32 → Int32 → zV → Option zV
  | 0 => fun _ _ _ _ _ _ => none
  | n + 1 => fun x0 x2 x3 x4 x5 v =>
    if x3 ≤ x5 then
      some v
    else
      zbindv (fX2_tellDeaths (zrf x0 1) (zrf x0 3) v) fun v_1 =>
      zbind (fX4_drawDeaths x0 x4 x2 v_1) fun r_3 v_2 =>
      zbind (fX2_settle (zrf x0 1) (zrf x0 3) v_2) fun r_5 v_4 =>
      (fX4_playFate_17 n) x0 x2 x3 r_3 (x5 + (1 : Int32)) v_4
set_option maxRecDepth 4000 in
theorem jX4_playFate_17 (x : zCx) (G : zG) (F : zF x G cX4_playFate 6 RX4 6 195) (hr : x.2.2.2.2.2.2.2.2.1.sig.returnType = (Option.none : Option FieldType)) (hk : x.2.2.2.2.2.2.2.2.1.locks = false) (w : zV)  : ∀ (n : Nat) (x0 : Nat) (t0 : zty G x0 1 4) (x2 : Int32) (x3 : Int32) (x4 : Int32) (x5 : Int32) (v : zV), fX4_playFate_17 n x0 x2 x3 x4 x5 v = some w → zJ x G 6 (zQ x G none w 0 0) 0 0 17 [(0, zr G x0), (2, .int x2), (3, .int x3), (4, .int x4), (5, .int x5)] [] v := by
  intro n
  induction n with
  | zero => intro x0 t0 x2 x3 x4 x5 v h; exact absurd h (by intro q; cases q)
  | succ n ih =>
    intro x0 t0 x2 x3 x4 x5 v h
    rw [fX4_playFate_17] at h
    dsimp only at h
    refine z_iload F dX4_playFate_17 4 rfl ?_
    refine z_iload_n F dX4_playFate_19 rfl 2 rfl ?_
    refine z_icmp_ge F 61 dX4_playFate_20 rfl (fun hc => ?_) (fun hc => ?_)
    · replace h := zif_t hc h
      cases h
      exact z_retv F hr hk dX4_playFate_61
    · replace h := zif_f hc h
      refine z_aload_n F dX4_playFate_23 rfl 0 rfl ?_
      refine zg_4_1 F t0 wF_X4_36 dX4_playFate_24 ?_
      refine z_aload_n F dX4_playFate_27 rfl 0 rfl ?_
      refine zg_4_3 F t0 wF_X4_12 dX4_playFate_28 ?_
      obtain ⟨v_1, hq31, h⟩ := zbindv_ex h
      refine z_callVv F [zr G (zrf x0 3)] [] (kX2_tellDeaths x.2.1 G (zrf x0 1) (zt_f tc_4_1 t0) (zrf x0 3) (zt_f tc_4_3 t0) v v_1 hq31) mI_X2_tellDeaths (c := 2) rfl (zt_f tc_4_1 t0) wM_X4_90 mi_X2_tellDeaths sl_X2_tellDeaths dX4_playFate_31 rfl ⟨Nat.le_of_ble_eq_true rfl, Nat.le_of_ble_eq_true rfl⟩ rfl (Nat.le_of_ble_eq_true rfl) ⟨Nat.zero_le _, Nat.zero_le _⟩ ?_
      refine z_aload_n F dX4_playFate_34 rfl 0 rfl ?_
      refine z_iload F dX4_playFate_35 3 rfl ?_
      refine z_iload_n F dX4_playFate_37 rfl 1 rfl ?_
      obtain ⟨r_3, v_2, hq38, h⟩ := zbind_ex h
      refine z_callVi F [.int x4, .int x2] [] (kX4_drawDeaths x.2.1 G x0 t0 x4 x2 v_1 r_3 v_2 hq38) mI_X4_drawDeaths (c := 4) rfl t0 wM_X4_172 mi_X4_drawDeaths sl_X4_drawDeaths dX4_playFate_38 rfl ⟨Nat.le_of_ble_eq_true rfl, Nat.le_of_ble_eq_true rfl⟩ rfl (Nat.le_of_ble_eq_true rfl) ⟨Nat.zero_le _, Nat.zero_le _⟩ ?_
      refine z_istore (n := 0) F [(4, .int r_3), (0, zr G x0), (2, .int x2), (3, .int x3), (5, .int x5)] dX4_playFate_41 (Nat.le_of_ble_eq_true rfl) rfl ?_
      refine z_aload_n F dX4_playFate_43 rfl 1 rfl ?_
      refine zg_4_1 F t0 wF_X4_36 dX4_playFate_44 ?_
      refine z_aload_n F dX4_playFate_47 rfl 1 rfl ?_
      refine zg_4_3 F t0 wF_X4_12 dX4_playFate_48 ?_
      obtain ⟨r_5, v_4, hq51, h⟩ := zbind_ex h
      refine z_callVi F [zr G (zrf x0 3)] [] (kX2_settle x.2.1 G (zrf x0 1) (zt_f tc_4_1 t0) (zrf x0 3) (zt_f tc_4_3 t0) v_2 r_5 v_4 hq51) mI_X2_settle (c := 2) rfl (zt_f tc_4_1 t0) wM_X4_141 mi_X2_settle sl_X2_settle dX4_playFate_51 rfl ⟨Nat.le_of_ble_eq_true rfl, Nat.le_of_ble_eq_true rfl⟩ rfl (Nat.le_of_ble_eq_true rfl) ⟨Nat.zero_le _, Nat.zero_le _⟩ ?_
      refine z_pop F dX4_playFate_54 rfl ?_
      refine z_iinc F [(5, .int (x5 + (1 : Int32))), (4, .int r_3), (0, zr G x0), (2, .int x2), (3, .int x3)] dX4_playFate_55 4 rfl rfl (Nat.le_of_ble_eq_true rfl) rfl ?_
      refine z_goto F 17 dX4_playFate_58 rfl ?_
      refine z_ls [(0, zr G x0), (2, .int x2), (3, .int x3), (4, .int r_3), (5, .int (x5 + (1 : Int32)))] [2, 3, 4, 1, 0] rfl ?_
      exact ih x0 t0 x2 x3 r_3 (x5 + (1 : Int32)) v_4 h

def fX4_playFate (x0 : Nat) (x1 : Int32) (x2 : Int32) (x3 : Int32) (v : zV) : Option zV :=
  zbindv (fX7_copy (zrf x0 3) (zrf x0 2) v) fun v_1 =>
  fX4_playFate_17  zFU x0 x2 x3 x1 (0 : Int32) v_1
set_option maxRecDepth 4000 in
theorem kX4_playFate (l : Launch) (G : zG) (x0 : Nat) (t0 : zty G x0 1 4) (x1 : Int32) (x2 : Int32) (x3 : Int32) (v : zV) (w : zV) (h : fX4_playFate x0 x1 x2 x3 v = some w) : zMet l yX4_playFate cX4_playFate 6 (Option.none : Option FieldType) 6 195 0 0 [zr G x0, .int x1, .int x2, .int x3] G v none w := by
  refine zM_of (own := RX4) (by decide) rfl (Nat.le_of_ble_eq_true rfl) (fun x hl F hr hk hcs => ?_)
  subst hl
  refine z_ls [(0, zr G x0), (1, .int x1), (2, .int x2), (3, .int x3)] [0, 1, 2, 3] rfl ?_
  unfold fX4_playFate at h
  refine z_aload_n F dX4_playFate_0 rfl 0 rfl ?_
  refine zg_4_3 F t0 wF_X4_12 dX4_playFate_1 ?_
  refine z_aload_n F dX4_playFate_4 rfl 0 rfl ?_
  refine zg_4_2 F t0 wF_X4_40 dX4_playFate_5 ?_
  obtain ⟨v_1, hq8, h⟩ := zbindv_ex h
  refine z_callVv F [zr G (zrf x0 2)] [] (kX7_copy x.2.1 G (zrf x0 3) (zt_f tc_4_3 t0) (zrf x0 2) (zt_f tc_4_2 t0) v v_1 hq8) mI_X7_copy (c := 7) rfl (zt_f tc_4_3 t0) wM_X4_43 mi_X7_copy sl_X7_copy dX4_playFate_8 rfl ⟨Nat.le_of_ble_eq_true rfl, Nat.le_of_ble_eq_true rfl⟩ rfl (Nat.le_of_ble_eq_true rfl) ⟨Nat.zero_le _, Nat.zero_le _⟩ ?_
  refine z_iload_n F dX4_playFate_11 rfl 1 rfl ?_
  refine z_istore (n := 0) F [(4, .int x1), (0, zr G x0), (1, .int x1), (2, .int x2), (3, .int x3)] dX4_playFate_12 (Nat.le_of_ble_eq_true rfl) rfl ?_
  refine z_iconst (y := (0 : Int32)) F dX4_playFate_14 rfl ?_
  refine z_istore (n := 0) F [(5, .int (0 : Int32)), (4, .int x1), (0, zr G x0), (1, .int x1), (2, .int x2), (3, .int x3)] dX4_playFate_15 (Nat.le_of_ble_eq_true rfl) rfl ?_
  refine z_ls [(0, zr G x0), (2, .int x2), (3, .int x3), (4, .int x1), (5, .int (0 : Int32))] [2, 4, 5, 1, 0] rfl ?_
  exact jX4_playFate_17 x G F hr hk w   zFU x0 t0 x2 x3 x1 (0 : Int32) v_1 h

theorem dX4_fateOf_0 : decode cX4_fateOf 0 = .ok (.aload_n 0, 1) := by decide +kernel
theorem dX4_fateOf_1 : decode cX4_fateOf 1 = .ok (.iload_n 1, 1) := by decide +kernel
theorem dX4_fateOf_2 : decode cX4_fateOf 2 = .ok (.iload_n 2, 1) := by decide +kernel
theorem dX4_fateOf_3 : decode cX4_fateOf 3 = .ok (.iload_n 3, 1) := by decide +kernel
theorem dX4_fateOf_4 : decode cX4_fateOf 4 = .ok (.invokevirtual 148, 3) := by decide +kernel
theorem dX4_fateOf_7 : decode cX4_fateOf 7 = .ok (.iload 4, 2) := by decide +kernel
theorem dX4_fateOf_9 : decode cX4_fateOf 9 = .ok (.tableswitch 67 0 2 #[27, 35, 51], 27) := by decide +kernel
theorem dX4_fateOf_36 : decode cX4_fateOf 36 = .ok (.aload_n 0, 1) := by decide +kernel
theorem dX4_fateOf_37 : decode cX4_fateOf 37 = .ok (.getfield 12, 3) := by decide +kernel
theorem dX4_fateOf_40 : decode cX4_fateOf 40 = .ok (.getfield 57, 3) := by decide +kernel
theorem dX4_fateOf_43 : decode cX4_fateOf 43 = .ok (.ireturn, 1) := by decide +kernel
theorem dX4_fateOf_44 : decode cX4_fateOf 44 = .ok (.aload_n 0, 1) := by decide +kernel
theorem dX4_fateOf_45 : decode cX4_fateOf 45 = .ok (.getfield 12, 3) := by decide +kernel
theorem dX4_fateOf_48 : decode cX4_fateOf 48 = .ok (.getfield 61, 3) := by decide +kernel
theorem dX4_fateOf_51 : decode cX4_fateOf 51 = .ok (.aload_n 0, 1) := by decide +kernel
theorem dX4_fateOf_52 : decode cX4_fateOf 52 = .ok (.getfield 40, 3) := by decide +kernel
theorem dX4_fateOf_55 : decode cX4_fateOf 55 = .ok (.getfield 61, 3) := by decide +kernel
theorem dX4_fateOf_58 : decode cX4_fateOf 58 = .ok (.isub, 1) := by decide +kernel
theorem dX4_fateOf_59 : decode cX4_fateOf 59 = .ok (.ireturn, 1) := by decide +kernel
theorem dX4_fateOf_60 : decode cX4_fateOf 60 = .ok (.aload_n 0, 1) := by decide +kernel
theorem dX4_fateOf_61 : decode cX4_fateOf 61 = .ok (.getfield 12, 3) := by decide +kernel
theorem dX4_fateOf_64 : decode cX4_fateOf 64 = .ok (.getfield 152, 3) := by decide +kernel
theorem dX4_fateOf_67 : decode cX4_fateOf 67 = .ok (.aload_n 0, 1) := by decide +kernel
theorem dX4_fateOf_68 : decode cX4_fateOf 68 = .ok (.getfield 40, 3) := by decide +kernel
theorem dX4_fateOf_71 : decode cX4_fateOf 71 = .ok (.getfield 152, 3) := by decide +kernel
theorem dX4_fateOf_74 : decode cX4_fateOf 74 = .ok (.isub, 1) := by decide +kernel
theorem dX4_fateOf_75 : decode cX4_fateOf 75 = .ok (.ireturn, 1) := by decide +kernel
theorem dX4_fateOf_76 : decode cX4_fateOf 76 = .ok (.aload_n 0, 1) := by decide +kernel
theorem dX4_fateOf_77 : decode cX4_fateOf 77 = .ok (.getfield 12, 3) := by decide +kernel
theorem dX4_fateOf_80 : decode cX4_fateOf 80 = .ok (.invokevirtual 53, 3) := by decide +kernel
theorem dX4_fateOf_83 : decode cX4_fateOf 83 = .ok (.ireturn, 1) := by decide +kernel
def fX4_fateOf (x0 : Nat) (x1 : Int32) (x2 : Int32) (x3 : Int32) (x4 : Int32) (v : zV) : Option (Int32 × zV) :=
  zbindv (fX4_playFate x0 x1 x2 x3 v) fun v_1 =>
  if x4 = (0 : Int32) then
    some (v_1 (zrf x0 3) 1, v_1)
  else
    if x4 = (1 : Int32) then
      some ((v_1 (zrf x0 3) 2) - (v_1 (zrf x0 2) 2), v_1)
    else
      if x4 = (2 : Int32) then
        some ((v_1 (zrf x0 3) 5) - (v_1 (zrf x0 2) 5), v_1)
      else
        zbind (fX7_last (zrf x0 3) v_1) fun r_3 v_2 =>
        some (r_3, v_2)
set_option maxRecDepth 4000 in
theorem kX4_fateOf (l : Launch) (G : zG) (x0 : Nat) (t0 : zty G x0 1 4) (x1 : Int32) (x2 : Int32) (x3 : Int32) (x4 : Int32) (v : zV) (r : Int32) (w : zV) (h : fX4_fateOf x0 x1 x2 x3 x4 v = some (r, w)) : zMet l yX4_fateOf cX4_fateOf 5 (Option.some FieldType.int) 7 220 0 0 [zr G x0, .int x1, .int x2, .int x3, .int x4] G v (some (.int r)) w := by
  refine zM_of (own := RX4) (by decide) rfl (Nat.le_of_ble_eq_true rfl) (fun x hl F hr hk hcs => ?_)
  subst hl
  refine z_ls [(0, zr G x0), (1, .int x1), (2, .int x2), (3, .int x3), (4, .int x4)] [0, 1, 2, 3, 4] rfl ?_
  unfold fX4_fateOf at h
  refine z_aload_n F dX4_fateOf_0 rfl 0 rfl ?_
  refine z_iload_n F dX4_fateOf_1 rfl 1 rfl ?_
  refine z_iload_n F dX4_fateOf_2 rfl 2 rfl ?_
  refine z_iload_n F dX4_fateOf_3 rfl 3 rfl ?_
  obtain ⟨v_1, hq4, h⟩ := zbindv_ex h
  refine z_callVv F [.int x1, .int x2, .int x3] [] (kX4_playFate x.2.1 G x0 t0 x1 x2 x3 v v_1 hq4) mI_X4_playFate (c := 4) rfl t0 wM_X4_148 mi_X4_playFate sl_X4_playFate dX4_fateOf_4 rfl ⟨Nat.le_of_ble_eq_true rfl, Nat.le_of_ble_eq_true rfl⟩ rfl (Nat.le_of_ble_eq_true rfl) ⟨Nat.zero_le _, Nat.zero_le _⟩ ?_
  refine z_iload F dX4_fateOf_7 4 rfl ?_
  by_cases hc : x4 = (0 : Int32)
  · replace h := zif_t hc h
    refine z_swIn F 36 hc dX4_fateOf_9 (by decide) (by decide) rfl rfl ?_
    refine z_aload_n F dX4_fateOf_36 rfl 0 rfl ?_
    refine zg_4_3 F t0 wF_X4_12 dX4_fateOf_37 ?_
    refine zg_7_1 F (zt_f tc_4_3 t0) wF_X4_57 dX4_fateOf_40 ?_
    cases h
    exact z_reti F hr hk dX4_fateOf_43
  · replace h := zif_f hc h
    have hn0 := zsw_ne hc
    by_cases hc : x4 = (1 : Int32)
    · replace h := zif_t hc h
      refine z_swIn F 44 hc dX4_fateOf_9 (by decide) (by decide) rfl rfl ?_
      refine z_aload_n F dX4_fateOf_44 rfl 0 rfl ?_
      refine zg_4_3 F t0 wF_X4_12 dX4_fateOf_45 ?_
      refine zg_7_2 F (zt_f tc_4_3 t0) wF_X4_61 dX4_fateOf_48 ?_
      refine z_aload_n F dX4_fateOf_51 rfl 0 rfl ?_
      refine zg_4_2 F t0 wF_X4_40 dX4_fateOf_52 ?_
      refine zg_7_2 F (zt_f tc_4_2 t0) wF_X4_61 dX4_fateOf_55 ?_
      refine z_isub F dX4_fateOf_58 ?_
      cases h
      exact z_reti F hr hk dX4_fateOf_59
    · replace h := zif_f hc h
      have hn1 := zsw_ne hc
      by_cases hc : x4 = (2 : Int32)
      · replace h := zif_t hc h
        refine z_swIn F 60 hc dX4_fateOf_9 (by decide) (by decide) rfl rfl ?_
        refine z_aload_n F dX4_fateOf_60 rfl 0 rfl ?_
        refine zg_4_3 F t0 wF_X4_12 dX4_fateOf_61 ?_
        refine zg_7_5 F (zt_f tc_4_3 t0) wF_X4_152 dX4_fateOf_64 ?_
        refine z_aload_n F dX4_fateOf_67 rfl 0 rfl ?_
        refine zg_4_2 F t0 wF_X4_40 dX4_fateOf_68 ?_
        refine zg_7_5 F (zt_f tc_4_2 t0) wF_X4_152 dX4_fateOf_71 ?_
        refine z_isub F dX4_fateOf_74 ?_
        cases h
        exact z_reti F hr hk dX4_fateOf_75
      · replace h := zif_f hc h
        have hn2 := zsw_ne hc
        refine z_tableOut F 76 dX4_fateOf_9 (by have q0 : ((0 : Int32) : Int32).toInt = 0 := rfl; have q1 : ((1 : Int32) : Int32).toInt = 1 := rfl; have q2 : ((2 : Int32) : Int32).toInt = 2 := rfl; omega) rfl ?_
        refine z_aload_n F dX4_fateOf_76 rfl 0 rfl ?_
        refine zg_4_3 F t0 wF_X4_12 dX4_fateOf_77 ?_
        obtain ⟨r_3, v_2, hq80, h⟩ := zbind_ex h
        refine z_callVi F [] [] (kX7_last x.2.1 G (zrf x0 3) (zt_f tc_4_3 t0) v_1 r_3 v_2 hq80) mI_X7_last (c := 7) rfl (zt_f tc_4_3 t0) wM_X4_53 mi_X7_last sl_X7_last dX4_fateOf_80 rfl ⟨Nat.le_of_ble_eq_true rfl, Nat.le_of_ble_eq_true rfl⟩ rfl (Nat.le_of_ble_eq_true rfl) ⟨Nat.zero_le _, Nat.zero_le _⟩ ?_
        cases h
        exact z_reti F hr hk dX4_fateOf_83

theorem dX4_tryFates_0 : decode cX4_tryFates 0 = .ok (.aload_n 0, 1) := by decide +kernel
theorem dX4_tryFates_1 : decode cX4_tryFates 1 = .ok (.bipush 12, 2) := by decide +kernel
theorem dX4_tryFates_3 : decode cX4_tryFates 3 = .ok (.putfield 155, 3) := by decide +kernel
theorem dX4_tryFates_6 : decode cX4_tryFates 6 = .ok (.aload_n 0, 1) := by decide +kernel
theorem dX4_tryFates_7 : decode cX4_tryFates 7 = .ok (.iconst 0, 1) := by decide +kernel
theorem dX4_tryFates_8 : decode cX4_tryFates 8 = .ok (.putfield 158, 3) := by decide +kernel
theorem dX4_tryFates_11 : decode cX4_tryFates 11 = .ok (.aload_n 0, 1) := by decide +kernel
theorem dX4_tryFates_12 : decode cX4_tryFates 12 = .ok (.iconst 0, 1) := by decide +kernel
theorem dX4_tryFates_13 : decode cX4_tryFates 13 = .ok (.putfield 161, 3) := by decide +kernel
theorem dX4_tryFates_16 : decode cX4_tryFates 16 = .ok (.iconst 0, 1) := by decide +kernel
theorem dX4_tryFates_17 : decode cX4_tryFates 17 = .ok (.istore 6, 2) := by decide +kernel
theorem dX4_tryFates_19 : decode cX4_tryFates 19 = .ok (.iload 6, 2) := by decide +kernel
theorem dX4_tryFates_21 : decode cX4_tryFates 21 = .ok (.iload_n 2, 1) := by decide +kernel
theorem dX4_tryFates_22 : decode cX4_tryFates 22 = .ok (.if_icmp .ge 82, 3) := by decide +kernel
theorem dX4_tryFates_25 : decode cX4_tryFates 25 = .ok (.aload_n 0, 1) := by decide +kernel
theorem dX4_tryFates_26 : decode cX4_tryFates 26 = .ok (.iload_n 1, 1) := by decide +kernel
theorem dX4_tryFates_27 : decode cX4_tryFates 27 = .ok (.iload 6, 2) := by decide +kernel
theorem dX4_tryFates_29 : decode cX4_tryFates 29 = .ok (.iadd, 1) := by decide +kernel
theorem dX4_tryFates_30 : decode cX4_tryFates 30 = .ok (.iload_n 3, 1) := by decide +kernel
theorem dX4_tryFates_31 : decode cX4_tryFates 31 = .ok (.iload 4, 2) := by decide +kernel
theorem dX4_tryFates_33 : decode cX4_tryFates 33 = .ok (.invokevirtual 148, 3) := by decide +kernel
theorem dX4_tryFates_36 : decode cX4_tryFates 36 = .ok (.aload_n 0, 1) := by decide +kernel
theorem dX4_tryFates_37 : decode cX4_tryFates 37 = .ok (.aload_n 0, 1) := by decide +kernel
theorem dX4_tryFates_38 : decode cX4_tryFates 38 = .ok (.getfield 155, 3) := by decide +kernel
theorem dX4_tryFates_41 : decode cX4_tryFates 41 = .ok (.aload_n 0, 1) := by decide +kernel
theorem dX4_tryFates_42 : decode cX4_tryFates 42 = .ok (.getfield 12, 3) := by decide +kernel
theorem dX4_tryFates_45 : decode cX4_tryFates 45 = .ok (.getfield 57, 3) := by decide +kernel
theorem dX4_tryFates_48 : decode cX4_tryFates 48 = .ok (.invokestatic 164, 3) := by decide +kernel
theorem dX4_tryFates_51 : decode cX4_tryFates 51 = .ok (.putfield 155, 3) := by decide +kernel
theorem dX4_tryFates_54 : decode cX4_tryFates 54 = .ok (.aload_n 0, 1) := by decide +kernel
theorem dX4_tryFates_55 : decode cX4_tryFates 55 = .ok (.aload_n 0, 1) := by decide +kernel
theorem dX4_tryFates_56 : decode cX4_tryFates 56 = .ok (.getfield 158, 3) := by decide +kernel
theorem dX4_tryFates_59 : decode cX4_tryFates 59 = .ok (.aload_n 0, 1) := by decide +kernel
theorem dX4_tryFates_60 : decode cX4_tryFates 60 = .ok (.getfield 12, 3) := by decide +kernel
theorem dX4_tryFates_63 : decode cX4_tryFates 63 = .ok (.getfield 57, 3) := by decide +kernel
theorem dX4_tryFates_66 : decode cX4_tryFates 66 = .ok (.invokestatic 169, 3) := by decide +kernel
theorem dX4_tryFates_69 : decode cX4_tryFates 69 = .ok (.putfield 158, 3) := by decide +kernel
theorem dX4_tryFates_72 : decode cX4_tryFates 72 = .ok (.aload_n 0, 1) := by decide +kernel
theorem dX4_tryFates_73 : decode cX4_tryFates 73 = .ok (.getfield 12, 3) := by decide +kernel
theorem dX4_tryFates_76 : decode cX4_tryFates 76 = .ok (.getfield 67, 3) := by decide +kernel
theorem dX4_tryFates_79 : decode cX4_tryFates 79 = .ok (.iload 5, 2) := by decide +kernel
theorem dX4_tryFates_81 : decode cX4_tryFates 81 = .ok (.invokestatic 70, 3) := by decide +kernel
theorem dX4_tryFates_84 : decode cX4_tryFates 84 = .ok (.iconst 1, 1) := by decide +kernel
theorem dX4_tryFates_85 : decode cX4_tryFates 85 = .ok (.if_icmp .ne 13, 3) := by decide +kernel
theorem dX4_tryFates_88 : decode cX4_tryFates 88 = .ok (.aload_n 0, 1) := by decide +kernel
theorem dX4_tryFates_89 : decode cX4_tryFates 89 = .ok (.dup, 1) := by decide +kernel
theorem dX4_tryFates_90 : decode cX4_tryFates 90 = .ok (.getfield 161, 3) := by decide +kernel
theorem dX4_tryFates_93 : decode cX4_tryFates 93 = .ok (.iconst 1, 1) := by decide +kernel
theorem dX4_tryFates_94 : decode cX4_tryFates 94 = .ok (.iadd, 1) := by decide +kernel
theorem dX4_tryFates_95 : decode cX4_tryFates 95 = .ok (.putfield 161, 3) := by decide +kernel
theorem dX4_tryFates_98 : decode cX4_tryFates 98 = .ok (.iinc 6 1, 3) := by decide +kernel
theorem dX4_tryFates_101 : decode cX4_tryFates 101 = .ok (.goto (-82), 3) := by decide +kernel
theorem dX4_tryFates_104 : decode cX4_tryFates 104 = .ok (.return_, 1) := by decide +kernel
def fX4_tryFates_19  : Nat → Nat → Int32 → Int32 → Int32 → Int32 → Int32 → Int32 → zV → Option zV
  | 0 => fun _ _ _ _ _ _ _ _ => none
  | n + 1 => fun x0 x1 x2 x3 x4 x5 x6 v =>
    if x2 ≤ x6 then
      some v
    else
      zbindv (fX4_playFate x0 (x1 + x6) x3 x4 v) fun v_1 =>
      zlet (zup v_1 x0 10 (zmin (v_1 x0 10) (v_1 (zrf x0 3) 1))) fun v_2 =>
      zlet (zup v_2 x0 11 (zmax (v_2 x0 11) (v_2 (zrf x0 3) 1))) fun v_3 =>
      zbind (fX9_get (zrf (zrf x0 3) 9) x5 v_3) fun r_5 v_4 =>
      if r_5 = (1 : Int32) then
        zlet (zup v_4 x0 12 ((v_4 x0 12) + (1 : Int32))) fun v_6 =>
        (fX4_tryFates_19 n) x0 x1 x2 x3 x4 x5 (x6 + (1 : Int32)) v_6
      else
        (fX4_tryFates_19 n) x0 x1 x2 x3 x4 x5 (x6 + (1 : Int32)) v_4
set_option maxRecDepth 4000 in
theorem jX4_tryFates_19 (x : zCx) (G : zG) (F : zF x G cX4_tryFates 7 RX4 7 220) (hr : x.2.2.2.2.2.2.2.2.1.sig.returnType = (Option.none : Option FieldType)) (hk : x.2.2.2.2.2.2.2.2.1.locks = false) (w : zV)  : ∀ (n : Nat) (x0 : Nat) (t0 : zty G x0 1 4) (x1 : Int32) (x2 : Int32) (x3 : Int32) (x4 : Int32) (x5 : Int32) (x6 : Int32) (v : zV), fX4_tryFates_19 n x0 x1 x2 x3 x4 x5 x6 v = some w → zJ x G 7 (zQ x G none w 0 0) 0 0 19 [(0, zr G x0), (1, .int x1), (2, .int x2), (3, .int x3), (4, .int x4), (5, .int x5), (6, .int x6)] [] v := by
  intro n
  induction n with
  | zero => intro x0 t0 x1 x2 x3 x4 x5 x6 v h; exact absurd h (by intro q; cases q)
  | succ n ih =>
    intro x0 t0 x1 x2 x3 x4 x5 x6 v h
    rw [fX4_tryFates_19] at h
    dsimp only at h
    refine z_iload F dX4_tryFates_19 6 rfl ?_
    refine z_iload_n F dX4_tryFates_21 rfl 2 rfl ?_
    refine z_icmp_ge F 104 dX4_tryFates_22 rfl (fun hc => ?_) (fun hc => ?_)
    · replace h := zif_t hc h
      cases h
      exact z_retv F hr hk dX4_tryFates_104
    · replace h := zif_f hc h
      refine z_aload_n F dX4_tryFates_25 rfl 0 rfl ?_
      refine z_iload_n F dX4_tryFates_26 rfl 1 rfl ?_
      refine z_iload F dX4_tryFates_27 6 rfl ?_
      refine z_iadd F dX4_tryFates_29 ?_
      refine z_iload_n F dX4_tryFates_30 rfl 3 rfl ?_
      refine z_iload F dX4_tryFates_31 4 rfl ?_
      obtain ⟨v_1, hq33, h⟩ := zbindv_ex h
      refine z_callVv F [.int (x1 + x6), .int x3, .int x4] [] (kX4_playFate x.2.1 G x0 t0 (x1 + x6) x3 x4 v v_1 hq33) mI_X4_playFate (c := 4) rfl t0 wM_X4_148 mi_X4_playFate sl_X4_playFate dX4_tryFates_33 rfl ⟨Nat.le_of_ble_eq_true rfl, Nat.le_of_ble_eq_true rfl⟩ rfl (Nat.le_of_ble_eq_true rfl) ⟨Nat.zero_le _, Nat.zero_le _⟩ ?_
      refine z_aload_n F dX4_tryFates_36 rfl 0 rfl ?_
      refine z_aload_n F dX4_tryFates_37 rfl 0 rfl ?_
      refine zg_4_10 F t0 wF_X4_155 dX4_tryFates_38 ?_
      refine z_aload_n F dX4_tryFates_41 rfl 0 rfl ?_
      refine zg_4_3 F t0 wF_X4_12 dX4_tryFates_42 ?_
      refine zg_7_1 F (zt_f tc_4_3 t0) wF_X4_57 dX4_tryFates_45 ?_
      refine z_min F wM_X4_164 dX4_tryFates_48 (Nat.le_of_ble_eq_true rfl) (Nat.le_of_ble_eq_true rfl) (Nat.le_of_ble_eq_true rfl) ⟨Nat.zero_le _, Nat.zero_le _⟩ ?_
      refine zp_4_10 F t0 wF_X4_155 dX4_tryFates_51 ?_
      obtain ⟨v_2, ev_2, h⟩ := zlet_ex h
      refine z_heap ev_2 ?_
      refine z_aload_n F dX4_tryFates_54 rfl 0 rfl ?_
      refine z_aload_n F dX4_tryFates_55 rfl 0 rfl ?_
      refine zg_4_11 F t0 wF_X4_158 dX4_tryFates_56 ?_
      refine z_aload_n F dX4_tryFates_59 rfl 0 rfl ?_
      refine zg_4_3 F t0 wF_X4_12 dX4_tryFates_60 ?_
      refine zg_7_1 F (zt_f tc_4_3 t0) wF_X4_57 dX4_tryFates_63 ?_
      refine z_max F wM_X4_169 dX4_tryFates_66 (Nat.le_of_ble_eq_true rfl) (Nat.le_of_ble_eq_true rfl) (Nat.le_of_ble_eq_true rfl) ⟨Nat.zero_le _, Nat.zero_le _⟩ ?_
      refine zp_4_11 F t0 wF_X4_158 dX4_tryFates_69 ?_
      obtain ⟨v_3, ev_3, h⟩ := zlet_ex h
      refine z_heap ev_3 ?_
      refine z_aload_n F dX4_tryFates_72 rfl 0 rfl ?_
      refine zg_4_3 F t0 wF_X4_12 dX4_tryFates_73 ?_
      refine zg_7_9 F (zt_f tc_4_3 t0) wF_X4_67 dX4_tryFates_76 ?_
      refine z_iload F dX4_tryFates_79 5 rfl ?_
      obtain ⟨r_5, v_4, hq81, h⟩ := zbind_ex h
      refine z_callSNi F [zr G (zrf (zrf x0 3) 9), .int x5] [] (kX9_get x.2.1 G (zrf (zrf x0 3) 9) (zt_f tc_7_9 (zt_f tc_4_3 t0)) x5 v_3 r_5 v_4 hq81) mI_X9_get wN_X4_70 ms_X9_get dX4_tryFates_81 rfl ⟨Nat.le_of_ble_eq_true rfl, Nat.le_of_ble_eq_true rfl⟩ rfl (Nat.le_of_ble_eq_true rfl) ⟨Nat.zero_le _, Nat.zero_le _⟩ ?_
      refine z_iconst (y := (1 : Int32)) F dX4_tryFates_84 rfl ?_
      refine z_icmp_ne F 98 dX4_tryFates_85 rfl (fun hc => ?_) (fun hc => ?_)
      · replace h := zif_f hc h
        refine z_iinc F [(6, .int (x6 + (1 : Int32))), (0, zr G x0), (1, .int x1), (2, .int x2), (3, .int x3), (4, .int x4), (5, .int x5)] dX4_tryFates_98 6 rfl rfl (Nat.le_of_ble_eq_true rfl) rfl ?_
        refine z_goto F 19 dX4_tryFates_101 rfl ?_
        refine z_ls [(0, zr G x0), (1, .int x1), (2, .int x2), (3, .int x3), (4, .int x4), (5, .int x5), (6, .int (x6 + (1 : Int32)))] [1, 2, 3, 4, 5, 6, 0] rfl ?_
        exact ih x0 t0 x1 x2 x3 x4 x5 (x6 + (1 : Int32)) v_4 h
      · replace h := zif_t hc h
        refine z_aload_n F dX4_tryFates_88 rfl 0 rfl ?_
        refine z_dup F dX4_tryFates_89 rfl ?_
        refine zg_4_12 F t0 wF_X4_161 dX4_tryFates_90 ?_
        refine z_iconst (y := (1 : Int32)) F dX4_tryFates_93 rfl ?_
        refine z_iadd F dX4_tryFates_94 ?_
        refine zp_4_12 F t0 wF_X4_161 dX4_tryFates_95 ?_
        obtain ⟨v_6, ev_6, h⟩ := zlet_ex h
        refine z_heap ev_6 ?_
        refine z_iinc F [(6, .int (x6 + (1 : Int32))), (0, zr G x0), (1, .int x1), (2, .int x2), (3, .int x3), (4, .int x4), (5, .int x5)] dX4_tryFates_98 6 rfl rfl (Nat.le_of_ble_eq_true rfl) rfl ?_
        refine z_goto F 19 dX4_tryFates_101 rfl ?_
        refine z_ls [(0, zr G x0), (1, .int x1), (2, .int x2), (3, .int x3), (4, .int x4), (5, .int x5), (6, .int (x6 + (1 : Int32)))] [1, 2, 3, 4, 5, 6, 0] rfl ?_
        exact ih x0 t0 x1 x2 x3 x4 x5 (x6 + (1 : Int32)) v_6 h

def fX4_tryFates (x0 : Nat) (x1 : Int32) (x2 : Int32) (x3 : Int32) (x4 : Int32) (x5 : Int32) (v : zV) : Option zV :=
  zlet (zup v x0 10 (12 : Int32)) fun v_1 =>
  zlet (zup v_1 x0 11 (0 : Int32)) fun v_2 =>
  zlet (zup v_2 x0 12 (0 : Int32)) fun v_3 =>
  fX4_tryFates_19  zFU x0 x1 x2 x3 x4 x5 (0 : Int32) v_3
set_option maxRecDepth 4000 in
theorem kX4_tryFates (l : Launch) (G : zG) (x0 : Nat) (t0 : zty G x0 1 4) (x1 : Int32) (x2 : Int32) (x3 : Int32) (x4 : Int32) (x5 : Int32) (v : zV) (w : zV) (h : fX4_tryFates x0 x1 x2 x3 x4 x5 v = some w) : zMet l yX4_tryFates cX4_tryFates 7 (Option.none : Option FieldType) 7 220 0 0 [zr G x0, .int x1, .int x2, .int x3, .int x4, .int x5] G v none w := by
  refine zM_of (own := RX4) (by decide) rfl (Nat.le_of_ble_eq_true rfl) (fun x hl F hr hk hcs => ?_)
  subst hl
  refine z_ls [(0, zr G x0), (1, .int x1), (2, .int x2), (3, .int x3), (4, .int x4), (5, .int x5)] [0, 1, 2, 3, 4, 5] rfl ?_
  unfold fX4_tryFates at h
  refine z_aload_n F dX4_tryFates_0 rfl 0 rfl ?_
  refine z_bipush (y := (12 : Int32)) F dX4_tryFates_1 rfl ?_
  refine zp_4_10 F t0 wF_X4_155 dX4_tryFates_3 ?_
  obtain ⟨v_1, ev_1, h⟩ := zlet_ex h
  refine z_heap ev_1 ?_
  refine z_aload_n F dX4_tryFates_6 rfl 0 rfl ?_
  refine z_iconst (y := (0 : Int32)) F dX4_tryFates_7 rfl ?_
  refine zp_4_11 F t0 wF_X4_158 dX4_tryFates_8 ?_
  obtain ⟨v_2, ev_2, h⟩ := zlet_ex h
  refine z_heap ev_2 ?_
  refine z_aload_n F dX4_tryFates_11 rfl 0 rfl ?_
  refine z_iconst (y := (0 : Int32)) F dX4_tryFates_12 rfl ?_
  refine zp_4_12 F t0 wF_X4_161 dX4_tryFates_13 ?_
  obtain ⟨v_3, ev_3, h⟩ := zlet_ex h
  refine z_heap ev_3 ?_
  refine z_iconst (y := (0 : Int32)) F dX4_tryFates_16 rfl ?_
  refine z_istore (n := 0) F [(6, .int (0 : Int32)), (0, zr G x0), (1, .int x1), (2, .int x2), (3, .int x3), (4, .int x4), (5, .int x5)] dX4_tryFates_17 (Nat.le_of_ble_eq_true rfl) rfl ?_
  refine z_ls [(0, zr G x0), (1, .int x1), (2, .int x2), (3, .int x3), (4, .int x4), (5, .int x5), (6, .int (0 : Int32))] [1, 2, 3, 4, 5, 6, 0] rfl ?_
  exact jX4_tryFates_19 x G F hr hk w   zFU x0 t0 x1 x2 x3 x4 x5 (0 : Int32) v_3 h

