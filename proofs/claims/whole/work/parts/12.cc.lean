theorem dX9_feed_0 : decode cX9_feed 0 = .ok (.aload_n 0, 1) := by decide +kernel
theorem dX9_feed_1 : decode cX9_feed 1 = .ok (.getfield 10, 3) := by decide +kernel
theorem dX9_feed_4 : decode cX9_feed 4 = .ok (.getfield 96, 3) := by decide +kernel
theorem dX9_feed_7 : decode cX9_feed 7 = .ok (.bipush 20, 2) := by decide +kernel
theorem dX9_feed_9 : decode cX9_feed 9 = .ok (.iadd, 1) := by decide +kernel
theorem dX9_feed_10 : decode cX9_feed 10 = .ok (.sipush 600, 3) := by decide +kernel
theorem dX9_feed_13 : decode cX9_feed 13 = .ok (.if_icmp .le 5, 3) := by decide +kernel
theorem dX9_feed_16 : decode cX9_feed 16 = .ok (.iconst (-1), 1) := by decide +kernel
theorem dX9_feed_17 : decode cX9_feed 17 = .ok (.ireturn, 1) := by decide +kernel
theorem dX9_feed_18 : decode cX9_feed 18 = .ok (.aload_n 0, 1) := by decide +kernel
theorem dX9_feed_19 : decode cX9_feed 19 = .ok (.getfield 10, 3) := by decide +kernel
theorem dX9_feed_22 : decode cX9_feed 22 = .ok (.iload_n 1, 1) := by decide +kernel
theorem dX9_feed_23 : decode cX9_feed 23 = .ok (.invokevirtual 100, 3) := by decide +kernel
theorem dX9_feed_26 : decode cX9_feed 26 = .ok (.aload_n 0, 1) := by decide +kernel
theorem dX9_feed_27 : decode cX9_feed 27 = .ok (.getfield 10, 3) := by decide +kernel
theorem dX9_feed_30 : decode cX9_feed 30 = .ok (.iload_n 2, 1) := by decide +kernel
theorem dX9_feed_31 : decode cX9_feed 31 = .ok (.invokevirtual 100, 3) := by decide +kernel
theorem dX9_feed_34 : decode cX9_feed 34 = .ok (.aload_n 0, 1) := by decide +kernel
theorem dX9_feed_35 : decode cX9_feed 35 = .ok (.getfield 10, 3) := by decide +kernel
theorem dX9_feed_38 : decode cX9_feed 38 = .ok (.iload_n 3, 1) := by decide +kernel
theorem dX9_feed_39 : decode cX9_feed 39 = .ok (.invokevirtual 100, 3) := by decide +kernel
theorem dX9_feed_42 : decode cX9_feed 42 = .ok (.aload_n 0, 1) := by decide +kernel
theorem dX9_feed_43 : decode cX9_feed 43 = .ok (.getfield 10, 3) := by decide +kernel
theorem dX9_feed_46 : decode cX9_feed 46 = .ok (.iload 4, 2) := by decide +kernel
theorem dX9_feed_48 : decode cX9_feed 48 = .ok (.invokevirtual 100, 3) := by decide +kernel
theorem dX9_feed_51 : decode cX9_feed 51 = .ok (.aload_n 0, 1) := by decide +kernel
theorem dX9_feed_52 : decode cX9_feed 52 = .ok (.getfield 10, 3) := by decide +kernel
theorem dX9_feed_55 : decode cX9_feed 55 = .ok (.iload 5, 2) := by decide +kernel
theorem dX9_feed_57 : decode cX9_feed 57 = .ok (.invokevirtual 100, 3) := by decide +kernel
theorem dX9_feed_60 : decode cX9_feed 60 = .ok (.aload_n 0, 1) := by decide +kernel
theorem dX9_feed_61 : decode cX9_feed 61 = .ok (.getfield 10, 3) := by decide +kernel
theorem dX9_feed_64 : decode cX9_feed 64 = .ok (.getfield 96, 3) := by decide +kernel
theorem dX9_feed_67 : decode cX9_feed 67 = .ok (.ireturn, 1) := by decide +kernel
def fX9_feed (x0 : Nat) (x1 : Int32) (x2 : Int32) (x3 : Int32) (x4 : Int32) (x5 : Int32) (v : zV) : Option (Int32 × zV) :=
  if ((v (zrf x0 0) 1) + (20 : Int32)) ≤ (600 : Int32) then
    zbindv (fX8_put (zrf x0 0) x1 v) fun v_1 =>
    zbindv (fX8_put (zrf x0 0) x2 v_1) fun v_2 =>
    zbindv (fX8_put (zrf x0 0) x3 v_2) fun v_3 =>
    zbindv (fX8_put (zrf x0 0) x4 v_3) fun v_4 =>
    zbindv (fX8_put (zrf x0 0) x5 v_4) fun v_5 =>
    some (v_5 (zrf x0 0) 1, v_5)
  else
    some ((-1 : Int32), v)
set_option maxRecDepth 4000 in
theorem kX9_feed (l : Launch) (G : zG) (x0 : Nat) (t0 : zty G x0 1 9) (x1 : Int32) (x2 : Int32) (x3 : Int32) (x4 : Int32) (x5 : Int32) (v : zV) (r : Int32) (w : zV) (h : fX9_feed x0 x1 x2 x3 x4 x5 v = some (r, w)) : zMet l yX9_feed cX9_feed 6 (Option.some FieldType.int) 2 102 0 0 [zr G x0, .int x1, .int x2, .int x3, .int x4, .int x5] G v (some (.int r)) w := by
  refine zM_of (own := RX9) (by decide) rfl (Nat.le_of_ble_eq_true rfl) (fun x hl F hr hk hcs => ?_)
  subst hl
  refine z_ls [(0, zr G x0), (1, .int x1), (2, .int x2), (3, .int x3), (4, .int x4), (5, .int x5)] [0, 1, 2, 3, 4, 5] rfl ?_
  unfold fX9_feed at h
  refine z_aload_n F dX9_feed_0 rfl 0 rfl ?_
  refine zg_9_0 F t0 wF_X9_10 dX9_feed_1 ?_
  refine zg_8_1 F (zt_f tc_9_0 t0) wF_X9_96 dX9_feed_4 ?_
  refine z_bipush (y := (20 : Int32)) F dX9_feed_7 rfl ?_
  refine z_iadd F dX9_feed_9 ?_
  refine z_sipush (y := (600 : Int32)) F dX9_feed_10 rfl ?_
  refine z_icmp_le F 18 dX9_feed_13 rfl (fun hc => ?_) (fun hc => ?_)
  · replace h := zif_t hc h
    refine z_aload_n F dX9_feed_18 rfl 0 rfl ?_
    refine zg_9_0 F t0 wF_X9_10 dX9_feed_19 ?_
    refine z_iload_n F dX9_feed_22 rfl 1 rfl ?_
    obtain ⟨v_1, hq23, h⟩ := zbindv_ex h
    refine z_callVv F [.int x1] [] (kX8_put x.2.1 G (zrf x0 0) (zt_f tc_9_0 t0) x1 v v_1 hq23) mI_X8_put (c := 8) rfl (zt_f tc_9_0 t0) wM_X9_100 mi_X8_put sl_X8_put dX9_feed_23 rfl ⟨Nat.le_of_ble_eq_true rfl, Nat.le_of_ble_eq_true rfl⟩ rfl (Nat.le_of_ble_eq_true rfl) ⟨Nat.zero_le _, Nat.zero_le _⟩ ?_
    refine z_aload_n F dX9_feed_26 rfl 0 rfl ?_
    refine zg_9_0 F t0 wF_X9_10 dX9_feed_27 ?_
    refine z_iload_n F dX9_feed_30 rfl 2 rfl ?_
    obtain ⟨v_2, hq31, h⟩ := zbindv_ex h
    refine z_callVv F [.int x2] [] (kX8_put x.2.1 G (zrf x0 0) (zt_f tc_9_0 t0) x2 v_1 v_2 hq31) mI_X8_put (c := 8) rfl (zt_f tc_9_0 t0) wM_X9_100 mi_X8_put sl_X8_put dX9_feed_31 rfl ⟨Nat.le_of_ble_eq_true rfl, Nat.le_of_ble_eq_true rfl⟩ rfl (Nat.le_of_ble_eq_true rfl) ⟨Nat.zero_le _, Nat.zero_le _⟩ ?_
    refine z_aload_n F dX9_feed_34 rfl 0 rfl ?_
    refine zg_9_0 F t0 wF_X9_10 dX9_feed_35 ?_
    refine z_iload_n F dX9_feed_38 rfl 3 rfl ?_
    obtain ⟨v_3, hq39, h⟩ := zbindv_ex h
    refine z_callVv F [.int x3] [] (kX8_put x.2.1 G (zrf x0 0) (zt_f tc_9_0 t0) x3 v_2 v_3 hq39) mI_X8_put (c := 8) rfl (zt_f tc_9_0 t0) wM_X9_100 mi_X8_put sl_X8_put dX9_feed_39 rfl ⟨Nat.le_of_ble_eq_true rfl, Nat.le_of_ble_eq_true rfl⟩ rfl (Nat.le_of_ble_eq_true rfl) ⟨Nat.zero_le _, Nat.zero_le _⟩ ?_
    refine z_aload_n F dX9_feed_42 rfl 0 rfl ?_
    refine zg_9_0 F t0 wF_X9_10 dX9_feed_43 ?_
    refine z_iload F dX9_feed_46 4 rfl ?_
    obtain ⟨v_4, hq48, h⟩ := zbindv_ex h
    refine z_callVv F [.int x4] [] (kX8_put x.2.1 G (zrf x0 0) (zt_f tc_9_0 t0) x4 v_3 v_4 hq48) mI_X8_put (c := 8) rfl (zt_f tc_9_0 t0) wM_X9_100 mi_X8_put sl_X8_put dX9_feed_48 rfl ⟨Nat.le_of_ble_eq_true rfl, Nat.le_of_ble_eq_true rfl⟩ rfl (Nat.le_of_ble_eq_true rfl) ⟨Nat.zero_le _, Nat.zero_le _⟩ ?_
    refine z_aload_n F dX9_feed_51 rfl 0 rfl ?_
    refine zg_9_0 F t0 wF_X9_10 dX9_feed_52 ?_
    refine z_iload F dX9_feed_55 5 rfl ?_
    obtain ⟨v_5, hq57, h⟩ := zbindv_ex h
    refine z_callVv F [.int x5] [] (kX8_put x.2.1 G (zrf x0 0) (zt_f tc_9_0 t0) x5 v_4 v_5 hq57) mI_X8_put (c := 8) rfl (zt_f tc_9_0 t0) wM_X9_100 mi_X8_put sl_X8_put dX9_feed_57 rfl ⟨Nat.le_of_ble_eq_true rfl, Nat.le_of_ble_eq_true rfl⟩ rfl (Nat.le_of_ble_eq_true rfl) ⟨Nat.zero_le _, Nat.zero_le _⟩ ?_
    refine z_aload_n F dX9_feed_60 rfl 0 rfl ?_
    refine zg_9_0 F t0 wF_X9_10 dX9_feed_61 ?_
    refine zg_8_1 F (zt_f tc_9_0 t0) wF_X9_96 dX9_feed_64 ?_
    cases h
    exact z_reti F hr hk dX9_feed_67
  · replace h := zif_f hc h
    refine z_iconst (y := (-1 : Int32)) F dX9_feed_16 rfl ?_
    cases h
    exact z_reti F hr hk dX9_feed_17

theorem dX9_fault_0 : decode cX9_fault 0 = .ok (.aload_n 0, 1) := by decide +kernel
theorem dX9_fault_1 : decode cX9_fault 1 = .ok (.getfield 10, 3) := by decide +kernel
theorem dX9_fault_4 : decode cX9_fault 4 = .ok (.getfield 147, 3) := by decide +kernel
theorem dX9_fault_7 : decode cX9_fault 7 = .ok (.ireturn, 1) := by decide +kernel
def fX9_fault (x0 : Nat) (v : zV) : Option (Int32 × zV) :=
  some (v (zrf x0 0) 3, v)
set_option maxRecDepth 4000 in
theorem kX9_fault (l : Launch) (G : zG) (x0 : Nat) (t0 : zty G x0 1 9) (v : zV) (r : Int32) (w : zV) (h : fX9_fault x0 v = some (r, w)) : zMet l yX9_fault cX9_fault 1 (Option.some FieldType.int) 1 80 0 0 [zr G x0] G v (some (.int r)) w := by
  refine zM_of (own := RX9) (by decide) rfl (Nat.le_of_ble_eq_true rfl) (fun x hl F hr hk hcs => ?_)
  subst hl
  refine z_ls [(0, zr G x0)] [0] rfl ?_
  unfold fX9_fault at h
  refine z_aload_n F dX9_fault_0 rfl 0 rfl ?_
  refine zg_9_0 F t0 wF_X9_10 dX9_fault_1 ?_
  refine zg_8_3 F (zt_f tc_9_0 t0) wF_X9_147 dX9_fault_4 ?_
  cases h
  exact z_reti F hr hk dX9_fault_7

theorem dX9_next_0 : decode cX9_next 0 = .ok (.aload_n 0, 1) := by decide +kernel
theorem dX9_next_1 : decode cX9_next 1 = .ok (.getfield 74, 3) := by decide +kernel
theorem dX9_next_4 : decode cX9_next 4 = .ok (.invokevirtual 224, 3) := by decide +kernel
theorem dX9_next_7 : decode cX9_next 7 = .ok (.ireturn, 1) := by decide +kernel
def fX9_next (x0 : Nat) (v : zV) : Option (Int32 × zV) :=
  zbind (fX4_nextTaken (zrf x0 12) v) fun r_2 v_1 =>
  some (r_2, v_1)
set_option maxRecDepth 4000 in
theorem kX9_next (l : Launch) (G : zG) (x0 : Nat) (t0 : zty G x0 1 9) (v : zV) (r : Int32) (w : zV) (h : fX9_next x0 v = some (r, w)) : zMet l yX9_next cX9_next 1 (Option.some FieldType.int) 8 234 0 0 [zr G x0] G v (some (.int r)) w := by
  refine zM_of (own := RX9) (by decide) rfl (Nat.le_of_ble_eq_true rfl) (fun x hl F hr hk hcs => ?_)
  subst hl
  refine z_ls [(0, zr G x0)] [0] rfl ?_
  unfold fX9_next at h
  refine z_aload_n F dX9_next_0 rfl 0 rfl ?_
  refine zg_9_12 F t0 wF_X9_74 dX9_next_1 ?_
  obtain ⟨r_2, v_1, hq4, h⟩ := zbind_ex h
  refine z_callVi F [] [] (kX4_nextTaken x.2.1 G (zrf x0 12) (zt_f tc_9_12 t0) v r_2 v_1 hq4) mI_X4_nextTaken (c := 4) rfl (zt_f tc_9_12 t0) wM_X9_224 mi_X4_nextTaken sl_X4_nextTaken dX9_next_4 rfl ⟨Nat.le_of_ble_eq_true rfl, Nat.le_of_ble_eq_true rfl⟩ rfl (Nat.le_of_ble_eq_true rfl) ⟨Nat.zero_le _, Nat.zero_le _⟩ ?_
  cases h
  exact z_reti F hr hk dX9_next_7

theorem dX9_taken_0 : decode cX9_taken 0 = .ok (.iload_n 1, 1) := by decide +kernel
theorem dX9_taken_1 : decode cX9_taken 1 = .ok (.iconst 1, 1) := by decide +kernel
theorem dX9_taken_2 : decode cX9_taken 2 = .ok (.if_icmp .lt 14, 3) := by decide +kernel
theorem dX9_taken_5 : decode cX9_taken 5 = .ok (.iload_n 1, 1) := by decide +kernel
theorem dX9_taken_6 : decode cX9_taken 6 = .ok (.aload_n 0, 1) := by decide +kernel
theorem dX9_taken_7 : decode cX9_taken 7 = .ok (.getfield 49, 3) := by decide +kernel
theorem dX9_taken_10 : decode cX9_taken 10 = .ok (.getfield 164, 3) := by decide +kernel
theorem dX9_taken_13 : decode cX9_taken 13 = .ok (.if_icmp .lt 6, 3) := by decide +kernel
theorem dX9_taken_16 : decode cX9_taken 16 = .ok (.bipush (-2), 2) := by decide +kernel
theorem dX9_taken_18 : decode cX9_taken 18 = .ok (.ireturn, 1) := by decide +kernel
theorem dX9_taken_19 : decode cX9_taken 19 = .ok (.iconst 0, 1) := by decide +kernel
theorem dX9_taken_20 : decode cX9_taken 20 = .ok (.istore_n 2, 1) := by decide +kernel
theorem dX9_taken_21 : decode cX9_taken 21 = .ok (.iload_n 2, 1) := by decide +kernel
theorem dX9_taken_22 : decode cX9_taken 22 = .ok (.aload_n 0, 1) := by decide +kernel
theorem dX9_taken_23 : decode cX9_taken 23 = .ok (.getfield 19, 3) := by decide +kernel
theorem dX9_taken_26 : decode cX9_taken 26 = .ok (.getfield 134, 3) := by decide +kernel
theorem dX9_taken_29 : decode cX9_taken 29 = .ok (.if_icmp .ge 26, 3) := by decide +kernel
theorem dX9_taken_32 : decode cX9_taken 32 = .ok (.aload_n 0, 1) := by decide +kernel
theorem dX9_taken_33 : decode cX9_taken 33 = .ok (.getfield 49, 3) := by decide +kernel
theorem dX9_taken_36 : decode cX9_taken 36 = .ok (.getfield 202, 3) := by decide +kernel
theorem dX9_taken_39 : decode cX9_taken 39 = .ok (.iload_n 2, 1) := by decide +kernel
theorem dX9_taken_40 : decode cX9_taken 40 = .ok (.invokestatic 191, 3) := by decide +kernel
theorem dX9_taken_43 : decode cX9_taken 43 = .ok (.iload_n 1, 1) := by decide +kernel
theorem dX9_taken_44 : decode cX9_taken 44 = .ok (.if_icmp .ne 5, 3) := by decide +kernel
theorem dX9_taken_47 : decode cX9_taken 47 = .ok (.iload_n 2, 1) := by decide +kernel
theorem dX9_taken_48 : decode cX9_taken 48 = .ok (.ireturn, 1) := by decide +kernel
theorem dX9_taken_49 : decode cX9_taken 49 = .ok (.iinc 2 1, 3) := by decide +kernel
theorem dX9_taken_52 : decode cX9_taken 52 = .ok (.goto (-31), 3) := by decide +kernel
theorem dX9_taken_55 : decode cX9_taken 55 = .ok (.iconst (-1), 1) := by decide +kernel
theorem dX9_taken_56 : decode cX9_taken 56 = .ok (.ireturn, 1) := by decide +kernel
def fX9_taken_21  : Nat → Nat → Int32 → Int32 → zV → Option (Int32 × zV)
  | 0 => fun _ _ _ _ => none
  | n + 1 => fun x0 x1 x2 v =>
    if (v (zrf x0 1) 1) ≤ x2 then
      some ((-1 : Int32), v)
    else
      zbind (fX9_get (zrf (zrf x0 7) 11) x2 v) fun r_2 v_1 =>
      if r_2 = x1 then
        some (x2, v_1)
      else
        (fX9_taken_21 n) x0 x1 (x2 + (1 : Int32)) v_1
set_option maxRecDepth 4000 in
theorem jX9_taken_21 (x : zCx) (G : zG) (F : zF x G cX9_taken 3 RX9 2 101) (hr : x.2.2.2.2.2.2.2.2.1.sig.returnType = (Option.some FieldType.int)) (hk : x.2.2.2.2.2.2.2.2.1.locks = false) (r : Int32) (w : zV)  : ∀ (n : Nat) (x0 : Nat) (t0 : zty G x0 1 9) (x1 : Int32) (x2 : Int32) (v : zV), fX9_taken_21 n x0 x1 x2 v = some (r, w) → zJ x G 3 (zQ x G (some (.int r)) w 0 0) 0 0 21 [(0, zr G x0), (1, .int x1), (2, .int x2)] [] v := by
  intro n
  induction n with
  | zero => intro x0 t0 x1 x2 v h; exact absurd h (by intro q; cases q)
  | succ n ih =>
    intro x0 t0 x1 x2 v h
    rw [fX9_taken_21] at h
    dsimp only at h
    refine z_iload_n F dX9_taken_21 rfl 2 rfl ?_
    refine z_aload_n F dX9_taken_22 rfl 0 rfl ?_
    refine zg_9_1 F t0 wF_X9_19 dX9_taken_23 ?_
    refine zg_0_1 F (zt_f tc_9_1 t0) wF_X9_134 dX9_taken_26 ?_
    refine z_icmp_ge F 55 dX9_taken_29 rfl (fun hc => ?_) (fun hc => ?_)
    · replace h := zif_t hc h
      refine z_iconst (y := (-1 : Int32)) F dX9_taken_55 rfl ?_
      cases h
      exact z_reti F hr hk dX9_taken_56
    · replace h := zif_f hc h
      refine z_aload_n F dX9_taken_32 rfl 0 rfl ?_
      refine zg_9_7 F t0 wF_X9_49 dX9_taken_33 ?_
      refine zg_7_11 F (zt_f tc_9_7 t0) wF_X9_202 dX9_taken_36 ?_
      refine z_iload_n F dX9_taken_39 rfl 2 rfl ?_
      obtain ⟨r_2, v_1, hq40, h⟩ := zbind_ex h
      refine z_callSi F [zr G (zrf (zrf x0 7) 11), .int x2] [] (kX9_get x.2.1 G (zrf (zrf x0 7) 11) (zt_f tc_7_11 (zt_f tc_9_7 t0)) x2 v r_2 v_1 hq40) mI_X9_get wM_X9_191 ms_X9_get dX9_taken_40 rfl ⟨Nat.le_of_ble_eq_true rfl, Nat.le_of_ble_eq_true rfl⟩ rfl (Nat.le_of_ble_eq_true rfl) ⟨Nat.zero_le _, Nat.zero_le _⟩ ?_
      refine z_iload_n F dX9_taken_43 rfl 1 rfl ?_
      refine z_icmp_ne F 49 dX9_taken_44 rfl (fun hc => ?_) (fun hc => ?_)
      · replace h := zif_f hc h
        refine z_iinc F [(2, .int (x2 + (1 : Int32))), (0, zr G x0), (1, .int x1)] dX9_taken_49 2 rfl rfl (Nat.le_of_ble_eq_true rfl) rfl ?_
        refine z_goto F 21 dX9_taken_52 rfl ?_
        refine z_ls [(0, zr G x0), (1, .int x1), (2, .int (x2 + (1 : Int32)))] [1, 2, 0] rfl ?_
        exact ih x0 t0 x1 (x2 + (1 : Int32)) v_1 h
      · replace h := zif_t hc h
        refine z_iload_n F dX9_taken_47 rfl 2 rfl ?_
        cases h
        exact z_reti F hr hk dX9_taken_48

def fX9_taken (x0 : Nat) (x1 : Int32) (v : zV) : Option (Int32 × zV) :=
  if x1 < (1 : Int32) then
    some ((-2 : Int32), v)
  else
    if x1 < (v (zrf x0 7) 0) then
      fX9_taken_21  zFU x0 x1 (0 : Int32) v
    else
      some ((-2 : Int32), v)
set_option maxRecDepth 4000 in
theorem kX9_taken (l : Launch) (G : zG) (x0 : Nat) (t0 : zty G x0 1 9) (x1 : Int32) (v : zV) (r : Int32) (w : zV) (h : fX9_taken x0 x1 v = some (r, w)) : zMet l yX9_taken cX9_taken 3 (Option.some FieldType.int) 2 101 0 0 [zr G x0, .int x1] G v (some (.int r)) w := by
  refine zM_of (own := RX9) (by decide) rfl (Nat.le_of_ble_eq_true rfl) (fun x hl F hr hk hcs => ?_)
  subst hl
  refine z_ls [(0, zr G x0), (1, .int x1)] [0, 1] rfl ?_
  unfold fX9_taken at h
  refine z_iload_n F dX9_taken_0 rfl 1 rfl ?_
  refine z_iconst (y := (1 : Int32)) F dX9_taken_1 rfl ?_
  refine z_icmp_lt F 16 dX9_taken_2 rfl (fun hc => ?_) (fun hc => ?_)
  · replace h := zif_t hc h
    refine z_bipush (y := (-2 : Int32)) F dX9_taken_16 rfl ?_
    cases h
    exact z_reti F hr hk dX9_taken_18
  · replace h := zif_f hc h
    refine z_iload_n F dX9_taken_5 rfl 1 rfl ?_
    refine z_aload_n F dX9_taken_6 rfl 0 rfl ?_
    refine zg_9_7 F t0 wF_X9_49 dX9_taken_7 ?_
    refine zg_7_0 F (zt_f tc_9_7 t0) wF_X9_164 dX9_taken_10 ?_
    refine z_icmp_lt F 19 dX9_taken_13 rfl (fun hc => ?_) (fun hc => ?_)
    · replace h := zif_t hc h
      refine z_iconst (y := (0 : Int32)) F dX9_taken_19 rfl ?_
      refine z_istore_n F [(2, .int (0 : Int32)), (0, zr G x0), (1, .int x1)] dX9_taken_20 rfl (Nat.le_of_ble_eq_true rfl) rfl ?_
      refine z_ls [(0, zr G x0), (1, .int x1), (2, .int (0 : Int32))] [1, 2, 0] rfl ?_
      exact jX9_taken_21 x G F hr hk r w   zFU x0 t0 x1 (0 : Int32) v h
    · replace h := zif_f hc h
      refine z_bipush (y := (-2 : Int32)) F dX9_taken_16 rfl ?_
      cases h
      exact z_reti F hr hk dX9_taken_18

theorem dX9_breaks_0 : decode cX9_breaks 0 = .ok (.aload_n 0, 1) := by decide +kernel
theorem dX9_breaks_1 : decode cX9_breaks 1 = .ok (.getfield 74, 3) := by decide +kernel
theorem dX9_breaks_4 : decode cX9_breaks 4 = .ok (.iconst (-1), 1) := by decide +kernel
theorem dX9_breaks_5 : decode cX9_breaks 5 = .ok (.invokevirtual 264, 3) := by decide +kernel
theorem dX9_breaks_8 : decode cX9_breaks 8 = .ok (.ireturn, 1) := by decide +kernel
def fX9_breaks (x0 : Nat) (v : zV) : Option (Int32 × zV) :=
  zbind (fX4_yearOfEntry (zrf x0 12) (-1 : Int32) v) fun r_2 v_1 =>
  some (r_2, v_1)
set_option maxRecDepth 4000 in
theorem kX9_breaks (l : Launch) (G : zG) (x0 : Nat) (t0 : zty G x0 1 9) (v : zV) (r : Int32) (w : zV) (h : fX9_breaks x0 v = some (r, w)) : zMet l yX9_breaks cX9_breaks 1 (Option.some FieldType.int) 8 236 0 0 [zr G x0] G v (some (.int r)) w := by
  refine zM_of (own := RX9) (by decide) rfl (Nat.le_of_ble_eq_true rfl) (fun x hl F hr hk hcs => ?_)
  subst hl
  refine z_ls [(0, zr G x0)] [0] rfl ?_
  unfold fX9_breaks at h
  refine z_aload_n F dX9_breaks_0 rfl 0 rfl ?_
  refine zg_9_12 F t0 wF_X9_74 dX9_breaks_1 ?_
  refine z_iconst (y := (-1 : Int32)) F dX9_breaks_4 rfl ?_
  obtain ⟨r_2, v_1, hq5, h⟩ := zbind_ex h
  refine z_callVi F [.int (-1 : Int32)] [] (kX4_yearOfEntry x.2.1 G (zrf x0 12) (zt_f tc_9_12 t0) (-1 : Int32) v r_2 v_1 hq5) mI_X4_yearOfEntry (c := 4) rfl (zt_f tc_9_12 t0) wM_X9_264 mi_X4_yearOfEntry sl_X4_yearOfEntry dX9_breaks_5 rfl ⟨Nat.le_of_ble_eq_true rfl, Nat.le_of_ble_eq_true rfl⟩ rfl (Nat.le_of_ble_eq_true rfl) ⟨Nat.zero_le _, Nat.zero_le _⟩ ?_
  cases h
  exact z_reti F hr hk dX9_breaks_8

theorem dX9_right_0 : decode cX9_right 0 = .ok (.aload_n 0, 1) := by decide +kernel
theorem dX9_right_1 : decode cX9_right 1 = .ok (.getfield 83, 3) := by decide +kernel
theorem dX9_right_4 : decode cX9_right 4 = .ok (.invokevirtual 286, 3) := by decide +kernel
theorem dX9_right_7 : decode cX9_right 7 = .ok (.ireturn, 1) := by decide +kernel
def fX9_right (x0 : Nat) (v : zV) : Option (Int32 × zV) :=
  zbind (fX6_rightLines (zrf x0 13) v) fun r_2 v_1 =>
  some (r_2, v_1)
set_option maxRecDepth 4000 in
theorem kX9_right (l : Launch) (G : zG) (x0 : Nat) (t0 : zty G x0 1 9) (v : zV) (r : Int32) (w : zV) (h : fX9_right x0 v = some (r, w)) : zMet l yX9_right cX9_right 1 (Option.some FieldType.int) 8 236 0 0 [zr G x0] G v (some (.int r)) w := by
  refine zM_of (own := RX9) (by decide) rfl (Nat.le_of_ble_eq_true rfl) (fun x hl F hr hk hcs => ?_)
  subst hl
  refine z_ls [(0, zr G x0)] [0] rfl ?_
  unfold fX9_right at h
  refine z_aload_n F dX9_right_0 rfl 0 rfl ?_
  refine zg_9_13 F t0 wF_X9_83 dX9_right_1 ?_
  obtain ⟨r_2, v_1, hq4, h⟩ := zbind_ex h
  refine z_callVi F [] [] (kX6_rightLines x.2.1 G (zrf x0 13) (zt_f tc_9_13 t0) v r_2 v_1 hq4) mI_X6_rightLines (c := 6) rfl (zt_f tc_9_13 t0) wM_X9_286 mi_X6_rightLines sl_X6_rightLines dX9_right_4 rfl ⟨Nat.le_of_ble_eq_true rfl, Nat.le_of_ble_eq_true rfl⟩ rfl (Nat.le_of_ble_eq_true rfl) ⟨Nat.zero_le _, Nat.zero_le _⟩ ?_
  cases h
  exact z_reti F hr hk dX9_right_7

theorem dX9_middle_0 : decode cX9_middle 0 = .ok (.aload_n 0, 1) := by decide +kernel
theorem dX9_middle_1 : decode cX9_middle 1 = .ok (.getfield 92, 3) := by decide +kernel
theorem dX9_middle_4 : decode cX9_middle 4 = .ok (.invokevirtual 302, 3) := by decide +kernel
theorem dX9_middle_7 : decode cX9_middle 7 = .ok (.ireturn, 1) := by decide +kernel
def fX9_middle (x0 : Nat) (v : zV) : Option (Int32 × zV) :=
  zbind (fX3_mostMiddling (zrf x0 14) v) fun r_2 v_1 =>
  some (r_2, v_1)
set_option maxRecDepth 4000 in
theorem kX9_middle (l : Launch) (G : zG) (x0 : Nat) (t0 : zty G x0 1 9) (v : zV) (r : Int32) (w : zV) (h : fX9_middle x0 v = some (r, w)) : zMet l yX9_middle cX9_middle 1 (Option.some FieldType.int) 4 149 0 0 [zr G x0] G v (some (.int r)) w := by
  refine zM_of (own := RX9) (by decide) rfl (Nat.le_of_ble_eq_true rfl) (fun x hl F hr hk hcs => ?_)
  subst hl
  refine z_ls [(0, zr G x0)] [0] rfl ?_
  unfold fX9_middle at h
  refine z_aload_n F dX9_middle_0 rfl 0 rfl ?_
  refine zg_9_14 F t0 wF_X9_92 dX9_middle_1 ?_
  obtain ⟨r_2, v_1, hq4, h⟩ := zbind_ex h
  refine z_callVi F [] [] (kX3_mostMiddling x.2.1 G (zrf x0 14) (zt_f tc_9_14 t0) v r_2 v_1 hq4) mI_X3_mostMiddling (c := 3) rfl (zt_f tc_9_14 t0) wM_X9_302 mi_X3_mostMiddling sl_X3_mostMiddling dX9_middle_4 rfl ⟨Nat.le_of_ble_eq_true rfl, Nat.le_of_ble_eq_true rfl⟩ rfl (Nat.le_of_ble_eq_true rfl) ⟨Nat.zero_le _, Nat.zero_le _⟩ ?_
  cases h
  exact z_reti F hr hk dX9_middle_7

theorem dX9_lead_0 : decode cX9_lead 0 = .ok (.aload_n 0, 1) := by decide +kernel
theorem dX9_lead_1 : decode cX9_lead 1 = .ok (.getfield 74, 3) := by decide +kernel
theorem dX9_lead_4 : decode cX9_lead 4 = .ok (.invokevirtual 317, 3) := by decide +kernel
theorem dX9_lead_7 : decode cX9_lead 7 = .ok (.ireturn, 1) := by decide +kernel
def fX9_lead (x0 : Nat) (v : zV) : Option (Int32 × zV) :=
  zbind (fX4_leadOfGreatest (zrf x0 12) v) fun r_2 v_1 =>
  some (r_2, v_1)
set_option maxRecDepth 4000 in
theorem kX9_lead (l : Launch) (G : zG) (x0 : Nat) (t0 : zty G x0 1 9) (v : zV) (r : Int32) (w : zV) (h : fX9_lead x0 v = some (r, w)) : zMet l yX9_lead cX9_lead 1 (Option.some FieldType.int) 5 173 0 0 [zr G x0] G v (some (.int r)) w := by
  refine zM_of (own := RX9) (by decide) rfl (Nat.le_of_ble_eq_true rfl) (fun x hl F hr hk hcs => ?_)
  subst hl
  refine z_ls [(0, zr G x0)] [0] rfl ?_
  unfold fX9_lead at h
  refine z_aload_n F dX9_lead_0 rfl 0 rfl ?_
  refine zg_9_12 F t0 wF_X9_74 dX9_lead_1 ?_
  obtain ⟨r_2, v_1, hq4, h⟩ := zbind_ex h
  refine z_callVi F [] [] (kX4_leadOfGreatest x.2.1 G (zrf x0 12) (zt_f tc_9_12 t0) v r_2 v_1 hq4) mI_X4_leadOfGreatest (c := 4) rfl (zt_f tc_9_12 t0) wM_X9_317 mi_X4_leadOfGreatest sl_X4_leadOfGreatest dX9_lead_4 rfl ⟨Nat.le_of_ble_eq_true rfl, Nat.le_of_ble_eq_true rfl⟩ rfl (Nat.le_of_ble_eq_true rfl) ⟨Nat.zero_le _, Nat.zero_le _⟩ ?_
  cases h
  exact z_reti F hr hk dX9_lead_7

theorem dX9_seams_0 : decode cX9_seams 0 = .ok (.aload_n 0, 1) := by decide +kernel
theorem dX9_seams_1 : decode cX9_seams 1 = .ok (.getfield 92, 3) := by decide +kernel
theorem dX9_seams_4 : decode cX9_seams 4 = .ok (.invokevirtual 329, 3) := by decide +kernel
theorem dX9_seams_7 : decode cX9_seams 7 = .ok (.ireturn, 1) := by decide +kernel
def fX9_seams (x0 : Nat) (v : zV) : Option (Int32 × zV) :=
  zbind (fX3_seamChairs (zrf x0 14) v) fun r_2 v_1 =>
  some (r_2, v_1)
set_option maxRecDepth 4000 in
theorem kX9_seams (l : Launch) (G : zG) (x0 : Nat) (t0 : zty G x0 1 9) (v : zV) (r : Int32) (w : zV) (h : fX9_seams x0 v = some (r, w)) : zMet l yX9_seams cX9_seams 1 (Option.some FieldType.int) 4 145 0 0 [zr G x0] G v (some (.int r)) w := by
  refine zM_of (own := RX9) (by decide) rfl (Nat.le_of_ble_eq_true rfl) (fun x hl F hr hk hcs => ?_)
  subst hl
  refine z_ls [(0, zr G x0)] [0] rfl ?_
  unfold fX9_seams at h
  refine z_aload_n F dX9_seams_0 rfl 0 rfl ?_
  refine zg_9_14 F t0 wF_X9_92 dX9_seams_1 ?_
  obtain ⟨r_2, v_1, hq4, h⟩ := zbind_ex h
  refine z_callVi F [] [] (kX3_seamChairs x.2.1 G (zrf x0 14) (zt_f tc_9_14 t0) v r_2 v_1 hq4) mI_X3_seamChairs (c := 3) rfl (zt_f tc_9_14 t0) wM_X9_329 mi_X3_seamChairs sl_X3_seamChairs dX9_seams_4 rfl ⟨Nat.le_of_ble_eq_true rfl, Nat.le_of_ble_eq_true rfl⟩ rfl (Nat.le_of_ble_eq_true rfl) ⟨Nat.zero_le _, Nat.zero_le _⟩ ?_
  cases h
  exact z_reti F hr hk dX9_seams_7

theorem dX9_ringed_0 : decode cX9_ringed 0 = .ok (.aload_n 0, 1) := by decide +kernel
theorem dX9_ringed_1 : decode cX9_ringed 1 = .ok (.getfield 92, 3) := by decide +kernel
theorem dX9_ringed_4 : decode cX9_ringed 4 = .ok (.invokevirtual 332, 3) := by decide +kernel
theorem dX9_ringed_7 : decode cX9_ringed 7 = .ok (.ireturn, 1) := by decide +kernel
def fX9_ringed (x0 : Nat) (v : zV) : Option (Int32 × zV) :=
  zbind (fX3_ringedMen (zrf x0 14) v) fun r_2 v_1 =>
  some (r_2, v_1)
set_option maxRecDepth 4000 in
theorem kX9_ringed (l : Launch) (G : zG) (x0 : Nat) (t0 : zty G x0 1 9) (v : zV) (r : Int32) (w : zV) (h : fX9_ringed x0 v = some (r, w)) : zMet l yX9_ringed cX9_ringed 1 (Option.some FieldType.int) 6 194 0 0 [zr G x0] G v (some (.int r)) w := by
  refine zM_of (own := RX9) (by decide) rfl (Nat.le_of_ble_eq_true rfl) (fun x hl F hr hk hcs => ?_)
  subst hl
  refine z_ls [(0, zr G x0)] [0] rfl ?_
  unfold fX9_ringed at h
  refine z_aload_n F dX9_ringed_0 rfl 0 rfl ?_
  refine zg_9_14 F t0 wF_X9_92 dX9_ringed_1 ?_
  obtain ⟨r_2, v_1, hq4, h⟩ := zbind_ex h
  refine z_callVi F [] [] (kX3_ringedMen x.2.1 G (zrf x0 14) (zt_f tc_9_14 t0) v r_2 v_1 hq4) mI_X3_ringedMen (c := 3) rfl (zt_f tc_9_14 t0) wM_X9_332 mi_X3_ringedMen sl_X3_ringedMen dX9_ringed_4 rfl ⟨Nat.le_of_ble_eq_true rfl, Nat.le_of_ble_eq_true rfl⟩ rfl (Nat.le_of_ble_eq_true rfl) ⟨Nat.zero_le _, Nat.zero_le _⟩ ?_
  cases h
  exact z_reti F hr hk dX9_ringed_7

theorem dX9_kin_0 : decode cX9_kin 0 = .ok (.aload_n 0, 1) := by decide +kernel
theorem dX9_kin_1 : decode cX9_kin 1 = .ok (.getfield 92, 3) := by decide +kernel
theorem dX9_kin_4 : decode cX9_kin 4 = .ok (.invokevirtual 341, 3) := by decide +kernel
theorem dX9_kin_7 : decode cX9_kin 7 = .ok (.ireturn, 1) := by decide +kernel
def fX9_kin (x0 : Nat) (v : zV) : Option (Int32 × zV) :=
  zbind (fX3_unlikeRows (zrf x0 14) v) fun r_2 v_1 =>
  some (r_2, v_1)
set_option maxRecDepth 4000 in
theorem kX9_kin (l : Launch) (G : zG) (x0 : Nat) (t0 : zty G x0 1 9) (v : zV) (r : Int32) (w : zV) (h : fX9_kin x0 v = some (r, w)) : zMet l yX9_kin cX9_kin 1 (Option.some FieldType.int) 4 147 0 0 [zr G x0] G v (some (.int r)) w := by
  refine zM_of (own := RX9) (by decide) rfl (Nat.le_of_ble_eq_true rfl) (fun x hl F hr hk hcs => ?_)
  subst hl
  refine z_ls [(0, zr G x0)] [0] rfl ?_
  unfold fX9_kin at h
  refine z_aload_n F dX9_kin_0 rfl 0 rfl ?_
  refine zg_9_14 F t0 wF_X9_92 dX9_kin_1 ?_
  obtain ⟨r_2, v_1, hq4, h⟩ := zbind_ex h
  refine z_callVi F [] [] (kX3_unlikeRows x.2.1 G (zrf x0 14) (zt_f tc_9_14 t0) v r_2 v_1 hq4) mI_X3_unlikeRows (c := 3) rfl (zt_f tc_9_14 t0) wM_X9_341 mi_X3_unlikeRows sl_X3_unlikeRows dX9_kin_4 rfl ⟨Nat.le_of_ble_eq_true rfl, Nat.le_of_ble_eq_true rfl⟩ rfl (Nat.le_of_ble_eq_true rfl) ⟨Nat.zero_le _, Nat.zero_le _⟩ ?_
  cases h
  exact z_reti F hr hk dX9_kin_7

theorem dX9_image_0 : decode cX9_image 0 = .ok (.aload_n 0, 1) := by decide +kernel
theorem dX9_image_1 : decode cX9_image 1 = .ok (.getfield 125, 3) := by decide +kernel
theorem dX9_image_4 : decode cX9_image 4 = .ok (.ifCond .lt 15, 3) := by decide +kernel
theorem dX9_image_7 : decode cX9_image 7 = .ok (.aload_n 0, 1) := by decide +kernel
theorem dX9_image_8 : decode cX9_image 8 = .ok (.getfield 125, 3) := by decide +kernel
theorem dX9_image_11 : decode cX9_image 11 = .ok (.aload_n 0, 1) := by decide +kernel
theorem dX9_image_12 : decode cX9_image 12 = .ok (.getfield 56, 3) := by decide +kernel
theorem dX9_image_15 : decode cX9_image 15 = .ok (.arraylength, 1) := by decide +kernel
theorem dX9_image_16 : decode cX9_image 16 = .ok (.if_icmp .lt 5, 3) := by decide +kernel
theorem dX9_image_19 : decode cX9_image 19 = .ok (.iconst (-1), 1) := by decide +kernel
theorem dX9_image_20 : decode cX9_image 20 = .ok (.ireturn, 1) := by decide +kernel
theorem dX9_image_21 : decode cX9_image 21 = .ok (.aload_n 0, 1) := by decide +kernel
theorem dX9_image_22 : decode cX9_image 22 = .ok (.getfield 56, 3) := by decide +kernel
theorem dX9_image_25 : decode cX9_image 25 = .ok (.aload_n 0, 1) := by decide +kernel
theorem dX9_image_26 : decode cX9_image 26 = .ok (.getfield 125, 3) := by decide +kernel
theorem dX9_image_29 : decode cX9_image 29 = .ok (.aaload, 1) := by decide +kernel
theorem dX9_image_30 : decode cX9_image 30 = .ok (.aload_n 0, 1) := by decide +kernel
theorem dX9_image_31 : decode cX9_image 31 = .ok (.getfield 49, 3) := by decide +kernel
theorem dX9_image_34 : decode cX9_image 34 = .ok (.invokevirtual 131, 3) := by decide +kernel
theorem dX9_image_37 : decode cX9_image 37 = .ok (.aload_n 0, 1) := by decide +kernel
theorem dX9_image_38 : decode cX9_image 38 = .ok (.dup, 1) := by decide +kernel
theorem dX9_image_39 : decode cX9_image 39 = .ok (.getfield 125, 3) := by decide +kernel
theorem dX9_image_42 : decode cX9_image 42 = .ok (.iconst 1, 1) := by decide +kernel
theorem dX9_image_43 : decode cX9_image 43 = .ok (.iadd, 1) := by decide +kernel
theorem dX9_image_44 : decode cX9_image 44 = .ok (.putfield 125, 3) := by decide +kernel
theorem dX9_image_47 : decode cX9_image 47 = .ok (.aload_n 0, 1) := by decide +kernel
theorem dX9_image_48 : decode cX9_image 48 = .ok (.getfield 125, 3) := by decide +kernel
theorem dX9_image_51 : decode cX9_image 51 = .ok (.ireturn, 1) := by decide +kernel
def fX9_image (x0 : Nat) (v : zV) : Option (Int32 × zV) :=
  if (v x0 10) < (0 : Int32) then
    some ((-1 : Int32), v)
  else
    if (v x0 10) < (Int32.ofNat (zlen (zrf x0 9))) then
      zix (v x0 10) (zlen (zrf x0 9)) <|
      zbindv (fX7_copy (zrf (zrf x0 9) (v x0 10).toNatClampNeg) (zrf x0 7) v) fun v_1 =>
      zlet (zup v_1 x0 10 ((v_1 x0 10) + (1 : Int32))) fun v_2 =>
      some (v_2 x0 10, v_2)
    else
      some ((-1 : Int32), v)
set_option maxRecDepth 4000 in
theorem kX9_image (l : Launch) (G : zG) (x0 : Nat) (t0 : zty G x0 1 9) (v : zV) (r : Int32) (w : zV) (h : fX9_image x0 v = some (r, w)) : zMet l yX9_image cX9_image 1 (Option.some FieldType.int) 2 101 0 0 [zr G x0] G v (some (.int r)) w := by
  refine zM_of (own := RX9) (by decide) rfl (Nat.le_of_ble_eq_true rfl) (fun x hl F hr hk hcs => ?_)
  subst hl
  refine z_ls [(0, zr G x0)] [0] rfl ?_
  unfold fX9_image at h
  refine z_aload_n F dX9_image_0 rfl 0 rfl ?_
  refine zg_9_10 F t0 wF_X9_125 dX9_image_1 ?_
  refine z_if_lt F 19 dX9_image_4 rfl (fun hc => ?_) (fun hc => ?_)
  · replace h := zif_t hc h
    refine z_iconst (y := (-1 : Int32)) F dX9_image_19 rfl ?_
    cases h
    exact z_reti F hr hk dX9_image_20
  · replace h := zif_f hc h
    refine z_aload_n F dX9_image_7 rfl 0 rfl ?_
    refine zg_9_10 F t0 wF_X9_125 dX9_image_8 ?_
    refine z_aload_n F dX9_image_11 rfl 0 rfl ?_
    refine zg_9_9 F t0 wF_X9_56 dX9_image_12 ?_
    refine z_alen4 F (zt_f tc_9_9 t0) dX9_image_15 rfl ?_
    refine z_icmp_lt F 21 dX9_image_16 rfl (fun hc => ?_) (fun hc => ?_)
    · replace h := zif_t hc h
      refine z_aload_n F dX9_image_21 rfl 0 rfl ?_
      refine zg_9_9 F t0 wF_X9_56 dX9_image_22 ?_
      refine z_aload_n F dX9_image_25 rfl 0 rfl ?_
      refine zg_9_10 F t0 wF_X9_125 dX9_image_26 ?_
      obtain ⟨hi29, h⟩ := zix_ex h
      refine z_aald4 F (zt_f tc_9_9 t0) dX9_image_29 hi29 ?_
      refine z_aload_n F dX9_image_30 rfl 0 rfl ?_
      refine zg_9_7 F t0 wF_X9_49 dX9_image_31 ?_
      obtain ⟨v_1, hq34, h⟩ := zbindv_ex h
      refine z_callVv F [zr G (zrf x0 7)] [] (kX7_copy x.2.1 G (zrf (zrf x0 9) (v x0 10).toNatClampNeg) (zt_a tcA_4 (zt_f tc_9_9 t0) (zin_lt hi29)) (zrf x0 7) (zt_f tc_9_7 t0) v v_1 hq34) mI_X7_copy (c := 7) rfl (zt_a tcA_4 (zt_f tc_9_9 t0) (zin_lt hi29)) wM_X9_131 mi_X7_copy sl_X7_copy dX9_image_34 rfl ⟨Nat.le_of_ble_eq_true rfl, Nat.le_of_ble_eq_true rfl⟩ rfl (Nat.le_of_ble_eq_true rfl) ⟨Nat.zero_le _, Nat.zero_le _⟩ ?_
      refine z_aload_n F dX9_image_37 rfl 0 rfl ?_
      refine z_dup F dX9_image_38 rfl ?_
      refine zg_9_10 F t0 wF_X9_125 dX9_image_39 ?_
      refine z_iconst (y := (1 : Int32)) F dX9_image_42 rfl ?_
      refine z_iadd F dX9_image_43 ?_
      refine zp_9_10 F t0 wF_X9_125 dX9_image_44 ?_
      obtain ⟨v_2, ev_2, h⟩ := zlet_ex h
      refine z_heap ev_2 ?_
      refine z_aload_n F dX9_image_47 rfl 0 rfl ?_
      refine zg_9_10 F t0 wF_X9_125 dX9_image_48 ?_
      cases h
      exact z_reti F hr hk dX9_image_51
    · replace h := zif_f hc h
      refine z_iconst (y := (-1 : Int32)) F dX9_image_19 rfl ?_
      cases h
      exact z_reti F hr hk dX9_image_20

theorem dX9_restore_0 : decode cX9_restore 0 = .ok (.aload_n 0, 1) := by decide +kernel
theorem dX9_restore_1 : decode cX9_restore 1 = .ok (.getfield 125, 3) := by decide +kernel
theorem dX9_restore_4 : decode cX9_restore 4 = .ok (.iconst 1, 1) := by decide +kernel
theorem dX9_restore_5 : decode cX9_restore 5 = .ok (.if_icmp .lt 15, 3) := by decide +kernel
theorem dX9_restore_8 : decode cX9_restore 8 = .ok (.aload_n 0, 1) := by decide +kernel
theorem dX9_restore_9 : decode cX9_restore 9 = .ok (.getfield 125, 3) := by decide +kernel
theorem dX9_restore_12 : decode cX9_restore 12 = .ok (.aload_n 0, 1) := by decide +kernel
theorem dX9_restore_13 : decode cX9_restore 13 = .ok (.getfield 56, 3) := by decide +kernel
theorem dX9_restore_16 : decode cX9_restore 16 = .ok (.arraylength, 1) := by decide +kernel
theorem dX9_restore_17 : decode cX9_restore 17 = .ok (.if_icmp .le 5, 3) := by decide +kernel
theorem dX9_restore_20 : decode cX9_restore 20 = .ok (.iconst (-1), 1) := by decide +kernel
theorem dX9_restore_21 : decode cX9_restore 21 = .ok (.ireturn, 1) := by decide +kernel
theorem dX9_restore_22 : decode cX9_restore 22 = .ok (.aload_n 0, 1) := by decide +kernel
theorem dX9_restore_23 : decode cX9_restore 23 = .ok (.dup, 1) := by decide +kernel
theorem dX9_restore_24 : decode cX9_restore 24 = .ok (.getfield 125, 3) := by decide +kernel
theorem dX9_restore_27 : decode cX9_restore 27 = .ok (.iconst 1, 1) := by decide +kernel
theorem dX9_restore_28 : decode cX9_restore 28 = .ok (.isub, 1) := by decide +kernel
theorem dX9_restore_29 : decode cX9_restore 29 = .ok (.putfield 125, 3) := by decide +kernel
theorem dX9_restore_32 : decode cX9_restore 32 = .ok (.aload_n 0, 1) := by decide +kernel
theorem dX9_restore_33 : decode cX9_restore 33 = .ok (.getfield 49, 3) := by decide +kernel
theorem dX9_restore_36 : decode cX9_restore 36 = .ok (.aload_n 0, 1) := by decide +kernel
theorem dX9_restore_37 : decode cX9_restore 37 = .ok (.getfield 56, 3) := by decide +kernel
theorem dX9_restore_40 : decode cX9_restore 40 = .ok (.aload_n 0, 1) := by decide +kernel
theorem dX9_restore_41 : decode cX9_restore 41 = .ok (.getfield 125, 3) := by decide +kernel
theorem dX9_restore_44 : decode cX9_restore 44 = .ok (.aaload, 1) := by decide +kernel
theorem dX9_restore_45 : decode cX9_restore 45 = .ok (.invokevirtual 131, 3) := by decide +kernel
theorem dX9_restore_48 : decode cX9_restore 48 = .ok (.aload_n 0, 1) := by decide +kernel
theorem dX9_restore_49 : decode cX9_restore 49 = .ok (.getfield 53, 3) := by decide +kernel
theorem dX9_restore_52 : decode cX9_restore 52 = .ok (.aload_n 0, 1) := by decide +kernel
theorem dX9_restore_53 : decode cX9_restore 53 = .ok (.getfield 49, 3) := by decide +kernel
theorem dX9_restore_56 : decode cX9_restore 56 = .ok (.invokevirtual 131, 3) := by decide +kernel
theorem dX9_restore_59 : decode cX9_restore 59 = .ok (.aload_n 0, 1) := by decide +kernel
theorem dX9_restore_60 : decode cX9_restore 60 = .ok (.getfield 125, 3) := by decide +kernel
theorem dX9_restore_63 : decode cX9_restore 63 = .ok (.ireturn, 1) := by decide +kernel
def fX9_restore (x0 : Nat) (v : zV) : Option (Int32 × zV) :=
  if (v x0 10) < (1 : Int32) then
    some ((-1 : Int32), v)
  else
    if (v x0 10) ≤ (Int32.ofNat (zlen (zrf x0 9))) then
      zlet (zup v x0 10 ((v x0 10) - (1 : Int32))) fun v_1 =>
      zix (v_1 x0 10) (zlen (zrf x0 9)) <|
      zbindv (fX7_copy (zrf x0 7) (zrf (zrf x0 9) (v_1 x0 10).toNatClampNeg) v_1) fun v_2 =>
      zbindv (fX7_copy (zrf x0 8) (zrf x0 7) v_2) fun v_3 =>
      some (v_3 x0 10, v_3)
    else
      some ((-1 : Int32), v)
set_option maxRecDepth 4000 in
theorem kX9_restore (l : Launch) (G : zG) (x0 : Nat) (t0 : zty G x0 1 9) (v : zV) (r : Int32) (w : zV) (h : fX9_restore x0 v = some (r, w)) : zMet l yX9_restore cX9_restore 1 (Option.some FieldType.int) 2 101 0 0 [zr G x0] G v (some (.int r)) w := by
  refine zM_of (own := RX9) (by decide) rfl (Nat.le_of_ble_eq_true rfl) (fun x hl F hr hk hcs => ?_)
  subst hl
  refine z_ls [(0, zr G x0)] [0] rfl ?_
  unfold fX9_restore at h
  refine z_aload_n F dX9_restore_0 rfl 0 rfl ?_
  refine zg_9_10 F t0 wF_X9_125 dX9_restore_1 ?_
  refine z_iconst (y := (1 : Int32)) F dX9_restore_4 rfl ?_
  refine z_icmp_lt F 20 dX9_restore_5 rfl (fun hc => ?_) (fun hc => ?_)
  · replace h := zif_t hc h
    refine z_iconst (y := (-1 : Int32)) F dX9_restore_20 rfl ?_
    cases h
    exact z_reti F hr hk dX9_restore_21
  · replace h := zif_f hc h
    refine z_aload_n F dX9_restore_8 rfl 0 rfl ?_
    refine zg_9_10 F t0 wF_X9_125 dX9_restore_9 ?_
    refine z_aload_n F dX9_restore_12 rfl 0 rfl ?_
    refine zg_9_9 F t0 wF_X9_56 dX9_restore_13 ?_
    refine z_alen4 F (zt_f tc_9_9 t0) dX9_restore_16 rfl ?_
    refine z_icmp_le F 22 dX9_restore_17 rfl (fun hc => ?_) (fun hc => ?_)
    · replace h := zif_t hc h
      refine z_aload_n F dX9_restore_22 rfl 0 rfl ?_
      refine z_dup F dX9_restore_23 rfl ?_
      refine zg_9_10 F t0 wF_X9_125 dX9_restore_24 ?_
      refine z_iconst (y := (1 : Int32)) F dX9_restore_27 rfl ?_
      refine z_isub F dX9_restore_28 ?_
      refine zp_9_10 F t0 wF_X9_125 dX9_restore_29 ?_
      obtain ⟨v_1, ev_1, h⟩ := zlet_ex h
      refine z_heap ev_1 ?_
      refine z_aload_n F dX9_restore_32 rfl 0 rfl ?_
      refine zg_9_7 F t0 wF_X9_49 dX9_restore_33 ?_
      refine z_aload_n F dX9_restore_36 rfl 0 rfl ?_
      refine zg_9_9 F t0 wF_X9_56 dX9_restore_37 ?_
      refine z_aload_n F dX9_restore_40 rfl 0 rfl ?_
      refine zg_9_10 F t0 wF_X9_125 dX9_restore_41 ?_
      obtain ⟨hi44, h⟩ := zix_ex h
      refine z_aald4 F (zt_f tc_9_9 t0) dX9_restore_44 hi44 ?_
      obtain ⟨v_2, hq45, h⟩ := zbindv_ex h
      refine z_callVv F [zr G (zrf (zrf x0 9) (v_1 x0 10).toNatClampNeg)] [] (kX7_copy x.2.1 G (zrf x0 7) (zt_f tc_9_7 t0) (zrf (zrf x0 9) (v_1 x0 10).toNatClampNeg) (zt_a tcA_4 (zt_f tc_9_9 t0) (zin_lt hi44)) v_1 v_2 hq45) mI_X7_copy (c := 7) rfl (zt_f tc_9_7 t0) wM_X9_131 mi_X7_copy sl_X7_copy dX9_restore_45 rfl ⟨Nat.le_of_ble_eq_true rfl, Nat.le_of_ble_eq_true rfl⟩ rfl (Nat.le_of_ble_eq_true rfl) ⟨Nat.zero_le _, Nat.zero_le _⟩ ?_
      refine z_aload_n F dX9_restore_48 rfl 0 rfl ?_
      refine zg_9_8 F t0 wF_X9_53 dX9_restore_49 ?_
      refine z_aload_n F dX9_restore_52 rfl 0 rfl ?_
      refine zg_9_7 F t0 wF_X9_49 dX9_restore_53 ?_
      obtain ⟨v_3, hq56, h⟩ := zbindv_ex h
      refine z_callVv F [zr G (zrf x0 7)] [] (kX7_copy x.2.1 G (zrf x0 8) (zt_f tc_9_8 t0) (zrf x0 7) (zt_f tc_9_7 t0) v_2 v_3 hq56) mI_X7_copy (c := 7) rfl (zt_f tc_9_8 t0) wM_X9_131 mi_X7_copy sl_X7_copy dX9_restore_56 rfl ⟨Nat.le_of_ble_eq_true rfl, Nat.le_of_ble_eq_true rfl⟩ rfl (Nat.le_of_ble_eq_true rfl) ⟨Nat.zero_le _, Nat.zero_le _⟩ ?_
      refine z_aload_n F dX9_restore_59 rfl 0 rfl ?_
      refine zg_9_10 F t0 wF_X9_125 dX9_restore_60 ?_
      cases h
      exact z_reti F hr hk dX9_restore_63
    · replace h := zif_f hc h
      refine z_iconst (y := (-1 : Int32)) F dX9_restore_20 rfl ?_
      cases h
      exact z_reti F hr hk dX9_restore_21

theorem dX9_status_0 : decode cX9_status 0 = .ok (.iload_n 1, 1) := by decide +kernel
theorem dX9_status_1 : decode cX9_status 1 = .ok (.lookupswitch 37 #[(0, 27), (1, 32)], 27) := by decide +kernel
theorem dX9_status_28 : decode cX9_status 28 = .ok (.aload_n 0, 1) := by decide +kernel
theorem dX9_status_29 : decode cX9_status 29 = .ok (.getfield 363, 3) := by decide +kernel
theorem dX9_status_32 : decode cX9_status 32 = .ok (.ireturn, 1) := by decide +kernel
theorem dX9_status_33 : decode cX9_status 33 = .ok (.aload_n 0, 1) := by decide +kernel
theorem dX9_status_34 : decode cX9_status 34 = .ok (.getfield 366, 3) := by decide +kernel
theorem dX9_status_37 : decode cX9_status 37 = .ok (.ireturn, 1) := by decide +kernel
theorem dX9_status_38 : decode cX9_status 38 = .ok (.iconst (-1), 1) := by decide +kernel
theorem dX9_status_39 : decode cX9_status 39 = .ok (.ireturn, 1) := by decide +kernel
def fX9_status (x0 : Nat) (x1 : Int32) (v : zV) : Option (Int32 × zV) :=
  if x1 = (0 : Int32) then
    some (v x0 15, v)
  else
    if x1 = (1 : Int32) then
      some (v x0 16, v)
    else
      some ((-1 : Int32), v)
set_option maxRecDepth 4000 in
theorem kX9_status (l : Launch) (G : zG) (x0 : Nat) (t0 : zty G x0 1 9) (x1 : Int32) (v : zV) (r : Int32) (w : zV) (h : fX9_status x0 x1 v = some (r, w)) : zMet l yX9_status cX9_status 2 (Option.some FieldType.int) 1 80 0 0 [zr G x0, .int x1] G v (some (.int r)) w := by
  refine zM_of (own := RX9) (by decide) rfl (Nat.le_of_ble_eq_true rfl) (fun x hl F hr hk hcs => ?_)
  subst hl
  refine z_ls [(0, zr G x0), (1, .int x1)] [0, 1] rfl ?_
  unfold fX9_status at h
  refine z_iload_n F dX9_status_0 rfl 1 rfl ?_
  by_cases hc : x1 = (0 : Int32)
  · replace h := zif_t hc h
    refine z_lkIn F 28 hc dX9_status_1 (by decide) rfl rfl ?_
    refine z_aload_n F dX9_status_28 rfl 0 rfl ?_
    refine zg_9_15 F t0 wF_X9_363 dX9_status_29 ?_
    cases h
    exact z_reti F hr hk dX9_status_32
  · replace h := zif_f hc h
    have hn0 := zsw_ne hc
    by_cases hc : x1 = (1 : Int32)
    · replace h := zif_t hc h
      refine z_lkIn F 33 hc dX9_status_1 (by decide) rfl rfl ?_
      refine z_aload_n F dX9_status_33 rfl 0 rfl ?_
      refine zg_9_16 F t0 wF_X9_366 dX9_status_34 ?_
      cases h
      exact z_reti F hr hk dX9_status_37
    · replace h := zif_f hc h
      have hn1 := zsw_ne hc
      refine z_lookup F 38 dX9_status_1 (by decide) (zlk_2 hn0 hn1) rfl ?_
      refine z_iconst (y := (-1 : Int32)) F dX9_status_38 rfl ?_
      cases h
      exact z_reti F hr hk dX9_status_39

theorem dX9_count_0 : decode cX9_count 0 = .ok (.iload_n 1, 1) := by decide +kernel
theorem dX9_count_1 : decode cX9_count 1 = .ok (.tableswitch 56 0 2 #[27, 32, 40], 27) := by decide +kernel
theorem dX9_count_28 : decode cX9_count 28 = .ok (.aload_n 0, 1) := by decide +kernel
theorem dX9_count_29 : decode cX9_count 29 = .ok (.getfield 125, 3) := by decide +kernel
theorem dX9_count_32 : decode cX9_count 32 = .ok (.ireturn, 1) := by decide +kernel
theorem dX9_count_33 : decode cX9_count 33 = .ok (.aload_n 0, 1) := by decide +kernel
theorem dX9_count_34 : decode cX9_count 34 = .ok (.getfield 10, 3) := by decide +kernel
theorem dX9_count_37 : decode cX9_count 37 = .ok (.getfield 96, 3) := by decide +kernel
theorem dX9_count_40 : decode cX9_count 40 = .ok (.ireturn, 1) := by decide +kernel
theorem dX9_count_41 : decode cX9_count 41 = .ok (.aload_n 0, 1) := by decide +kernel
theorem dX9_count_42 : decode cX9_count 42 = .ok (.getfield 49, 3) := by decide +kernel
theorem dX9_count_45 : decode cX9_count 45 = .ok (.getfield 164, 3) := by decide +kernel
theorem dX9_count_48 : decode cX9_count 48 = .ok (.aload_n 0, 1) := by decide +kernel
theorem dX9_count_49 : decode cX9_count 49 = .ok (.getfield 53, 3) := by decide +kernel
theorem dX9_count_52 : decode cX9_count 52 = .ok (.getfield 164, 3) := by decide +kernel
theorem dX9_count_55 : decode cX9_count 55 = .ok (.isub, 1) := by decide +kernel
theorem dX9_count_56 : decode cX9_count 56 = .ok (.ireturn, 1) := by decide +kernel
theorem dX9_count_57 : decode cX9_count 57 = .ok (.iconst (-1), 1) := by decide +kernel
theorem dX9_count_58 : decode cX9_count 58 = .ok (.ireturn, 1) := by decide +kernel
def fX9_count (x0 : Nat) (x1 : Int32) (v : zV) : Option (Int32 × zV) :=
  if x1 = (0 : Int32) then
    some (v x0 10, v)
  else
    if x1 = (1 : Int32) then
      some (v (zrf x0 0) 1, v)
    else
      if x1 = (2 : Int32) then
        some ((v (zrf x0 7) 0) - (v (zrf x0 8) 0), v)
      else
        some ((-1 : Int32), v)
set_option maxRecDepth 4000 in
theorem kX9_count (l : Launch) (G : zG) (x0 : Nat) (t0 : zty G x0 1 9) (x1 : Int32) (v : zV) (r : Int32) (w : zV) (h : fX9_count x0 x1 v = some (r, w)) : zMet l yX9_count cX9_count 2 (Option.some FieldType.int) 1 80 0 0 [zr G x0, .int x1] G v (some (.int r)) w := by
  refine zM_of (own := RX9) (by decide) rfl (Nat.le_of_ble_eq_true rfl) (fun x hl F hr hk hcs => ?_)
  subst hl
  refine z_ls [(0, zr G x0), (1, .int x1)] [0, 1] rfl ?_
  unfold fX9_count at h
  refine z_iload_n F dX9_count_0 rfl 1 rfl ?_
  by_cases hc : x1 = (0 : Int32)
  · replace h := zif_t hc h
    refine z_swIn F 28 hc dX9_count_1 (by decide) (by decide) rfl rfl ?_
    refine z_aload_n F dX9_count_28 rfl 0 rfl ?_
    refine zg_9_10 F t0 wF_X9_125 dX9_count_29 ?_
    cases h
    exact z_reti F hr hk dX9_count_32
  · replace h := zif_f hc h
    have hn0 := zsw_ne hc
    by_cases hc : x1 = (1 : Int32)
    · replace h := zif_t hc h
      refine z_swIn F 33 hc dX9_count_1 (by decide) (by decide) rfl rfl ?_
      refine z_aload_n F dX9_count_33 rfl 0 rfl ?_
      refine zg_9_0 F t0 wF_X9_10 dX9_count_34 ?_
      refine zg_8_1 F (zt_f tc_9_0 t0) wF_X9_96 dX9_count_37 ?_
      cases h
      exact z_reti F hr hk dX9_count_40
    · replace h := zif_f hc h
      have hn1 := zsw_ne hc
      by_cases hc : x1 = (2 : Int32)
      · replace h := zif_t hc h
        refine z_swIn F 41 hc dX9_count_1 (by decide) (by decide) rfl rfl ?_
        refine z_aload_n F dX9_count_41 rfl 0 rfl ?_
        refine zg_9_7 F t0 wF_X9_49 dX9_count_42 ?_
        refine zg_7_0 F (zt_f tc_9_7 t0) wF_X9_164 dX9_count_45 ?_
        refine z_aload_n F dX9_count_48 rfl 0 rfl ?_
        refine zg_9_8 F t0 wF_X9_53 dX9_count_49 ?_
        refine zg_7_0 F (zt_f tc_9_8 t0) wF_X9_164 dX9_count_52 ?_
        refine z_isub F dX9_count_55 ?_
        cases h
        exact z_reti F hr hk dX9_count_56
      · replace h := zif_f hc h
        have hn2 := zsw_ne hc
        refine z_tableOut F 57 dX9_count_1 (by have q0 : ((0 : Int32) : Int32).toInt = 0 := rfl; have q1 : ((1 : Int32) : Int32).toInt = 1 := rfl; have q2 : ((2 : Int32) : Int32).toInt = 2 := rfl; omega) rfl ?_
        refine z_iconst (y := (-1 : Int32)) F dX9_count_57 rfl ?_
        cases h
        exact z_reti F hr hk dX9_count_58

