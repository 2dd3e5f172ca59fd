theorem dX9_within_0 : decode cX9_within 0 = .ok (.iload_n 0, 1) := by decide +kernel
theorem dX9_within_1 : decode cX9_within 1 = .ok (.iload_n 1, 1) := by decide +kernel
theorem dX9_within_2 : decode cX9_within 2 = .ok (.if_icmp .lt 12, 3) := by decide +kernel
theorem dX9_within_5 : decode cX9_within 5 = .ok (.iload_n 0, 1) := by decide +kernel
theorem dX9_within_6 : decode cX9_within 6 = .ok (.iload_n 2, 1) := by decide +kernel
theorem dX9_within_7 : decode cX9_within 7 = .ok (.if_icmp .gt 7, 3) := by decide +kernel
theorem dX9_within_10 : decode cX9_within 10 = .ok (.iconst 1, 1) := by decide +kernel
theorem dX9_within_11 : decode cX9_within 11 = .ok (.goto 4, 3) := by decide +kernel
theorem dX9_within_14 : decode cX9_within 14 = .ok (.iconst 0, 1) := by decide +kernel
theorem dX9_within_15 : decode cX9_within 15 = .ok (.ireturn, 1) := by decide +kernel
def fX9_within (x0 : Int32) (x1 : Int32) (x2 : Int32) (v : zV) : Option (Int32 × zV) :=
  if x0 < x1 then
    some ((0 : Int32), v)
  else
    if x2 < x0 then
      some ((0 : Int32), v)
    else
      some ((1 : Int32), v)
set_option maxRecDepth 4000 in
theorem kX9_within (l : Launch) (G : zG) (x0 : Int32) (x1 : Int32) (x2 : Int32) (v : zV) (r : Int32) (w : zV) (h : fX9_within x0 x1 x2 v = some (r, w)) : zMet l yX9_within cX9_within 3 (Option.some FieldType.boolean) 1 80 0 0 [.int x0, .int x1, .int x2] G v (some (.int r)) w := by
  refine zM_of (own := RX9) (by decide) rfl (Nat.le_of_ble_eq_true rfl) (fun x hl F hr hk hcs => ?_)
  subst hl
  refine z_ls [(0, .int x0), (1, .int x1), (2, .int x2)] [0, 1, 2] rfl ?_
  unfold fX9_within at h
  refine z_iload_n F dX9_within_0 rfl 0 rfl ?_
  refine z_iload_n F dX9_within_1 rfl 1 rfl ?_
  refine z_icmp_lt F 14 dX9_within_2 rfl (fun hc => ?_) (fun hc => ?_)
  · replace h := zif_t hc h
    refine z_iconst (y := (0 : Int32)) F dX9_within_14 rfl ?_
    cases h
    exact z_retz F hr hk rfl dX9_within_15
  · replace h := zif_f hc h
    refine z_iload_n F dX9_within_5 rfl 0 rfl ?_
    refine z_iload_n F dX9_within_6 rfl 2 rfl ?_
    refine z_icmp_gt F 14 dX9_within_7 rfl (fun hc => ?_) (fun hc => ?_)
    · replace h := zif_t hc h
      refine z_iconst (y := (0 : Int32)) F dX9_within_14 rfl ?_
      cases h
      exact z_retz F hr hk rfl dX9_within_15
    · replace h := zif_f hc h
      refine z_iconst (y := (1 : Int32)) F dX9_within_10 rfl ?_
      refine z_goto F 15 dX9_within_11 rfl ?_
      cases h
      exact z_retz F hr hk rfl dX9_within_15

theorem dX9_get_0 : decode cX9_get 0 = .ok (.iload_n 1, 1) := by decide +kernel
theorem dX9_get_1 : decode cX9_get 1 = .ok (.ifCond .lt 15, 3) := by decide +kernel
theorem dX9_get_4 : decode cX9_get 4 = .ok (.iload_n 1, 1) := by decide +kernel
theorem dX9_get_5 : decode cX9_get 5 = .ok (.aload_n 0, 1) := by decide +kernel
theorem dX9_get_6 : decode cX9_get 6 = .ok (.arraylength, 1) := by decide +kernel
theorem dX9_get_7 : decode cX9_get 7 = .ok (.if_icmp .ge 9, 3) := by decide +kernel
theorem dX9_get_10 : decode cX9_get 10 = .ok (.aload_n 0, 1) := by decide +kernel
theorem dX9_get_11 : decode cX9_get 11 = .ok (.iload_n 1, 1) := by decide +kernel
theorem dX9_get_12 : decode cX9_get 12 = .ok (.iaload, 1) := by decide +kernel
theorem dX9_get_13 : decode cX9_get 13 = .ok (.goto 4, 3) := by decide +kernel
theorem dX9_get_16 : decode cX9_get 16 = .ok (.iconst 0, 1) := by decide +kernel
theorem dX9_get_17 : decode cX9_get 17 = .ok (.ireturn, 1) := by decide +kernel
def fX9_get (x0 : Nat) (x1 : Int32) (v : zV) : Option (Int32 × zV) :=
  if x1 < (0 : Int32) then
    some ((0 : Int32), v)
  else
    if (Int32.ofNat (zlen x0)) ≤ x1 then
      some ((0 : Int32), v)
    else
      zix x1 (zlen x0) <|
      some (v x0 (x1).toNatClampNeg, v)
set_option maxRecDepth 4000 in
theorem kX9_get (l : Launch) (G : zG) (x0 : Nat) (t0 : zty x0 2 0) (x1 : Int32) (v : zV) (r : Int32) (w : zV) (h : fX9_get x0 x1 v = some (r, w)) : zMet l yX9_get cX9_get 2 (Option.some FieldType.int) 1 80 0 0 [zr G x0, .int x1] G v (some (.int r)) w := by
  refine zM_of (own := RX9) (by decide) rfl (Nat.le_of_ble_eq_true rfl) (fun x hl F hr hk hcs => ?_)
  subst hl
  refine z_ls [(0, zr G x0), (1, .int x1)] [0, 1] rfl ?_
  unfold fX9_get at h
  refine z_iload_n F dX9_get_0 rfl 1 rfl ?_
  refine z_if_lt F 16 dX9_get_1 rfl (fun hc => ?_) (fun hc => ?_)
  · replace h := zif_t hc h
    refine z_iconst (y := (0 : Int32)) F dX9_get_16 rfl ?_
    cases h
    exact z_reti F hr hk dX9_get_17
  · replace h := zif_f hc h
    refine z_iload_n F dX9_get_4 rfl 1 rfl ?_
    refine z_aload_n F dX9_get_5 rfl 0 rfl ?_
    refine z_alen0 F t0 dX9_get_6 rfl ?_
    refine z_icmp_ge F 16 dX9_get_7 rfl (fun hc => ?_) (fun hc => ?_)
    · replace h := zif_t hc h
      refine z_iconst (y := (0 : Int32)) F dX9_get_16 rfl ?_
      cases h
      exact z_reti F hr hk dX9_get_17
    · replace h := zif_f hc h
      refine z_aload_n F dX9_get_10 rfl 0 rfl ?_
      refine z_iload_n F dX9_get_11 rfl 1 rfl ?_
      obtain ⟨hi12, h⟩ := zix_ex h
      refine z_iald F t0 dX9_get_12 hi12 ?_
      refine z_goto F 17 dX9_get_13 rfl ?_
      cases h
      exact z_reti F hr hk dX9_get_17

theorem dX9_set_0 : decode cX9_set 0 = .ok (.iload_n 1, 1) := by decide +kernel
theorem dX9_set_1 : decode cX9_set 1 = .ok (.ifCond .lt 13, 3) := by decide +kernel
theorem dX9_set_4 : decode cX9_set 4 = .ok (.iload_n 1, 1) := by decide +kernel
theorem dX9_set_5 : decode cX9_set 5 = .ok (.aload_n 0, 1) := by decide +kernel
theorem dX9_set_6 : decode cX9_set 6 = .ok (.arraylength, 1) := by decide +kernel
theorem dX9_set_7 : decode cX9_set 7 = .ok (.if_icmp .ge 7, 3) := by decide +kernel
theorem dX9_set_10 : decode cX9_set 10 = .ok (.aload_n 0, 1) := by decide +kernel
theorem dX9_set_11 : decode cX9_set 11 = .ok (.iload_n 1, 1) := by decide +kernel
theorem dX9_set_12 : decode cX9_set 12 = .ok (.iload_n 2, 1) := by decide +kernel
theorem dX9_set_13 : decode cX9_set 13 = .ok (.iastore, 1) := by decide +kernel
theorem dX9_set_14 : decode cX9_set 14 = .ok (.return_, 1) := by decide +kernel
def fX9_set (x0 : Nat) (x1 : Int32) (x2 : Int32) (v : zV) : Option zV :=
  if x1 < (0 : Int32) then
    some v
  else
    if (Int32.ofNat (zlen x0)) ≤ x1 then
      some v
    else
      zix x1 (zlen x0) <|
      zlet (zup v x0 (x1).toNatClampNeg x2) fun v_1 =>
      some v_1
set_option maxRecDepth 4000 in
theorem kX9_set (l : Launch) (G : zG) (x0 : Nat) (t0 : zty x0 2 0) (x1 : Int32) (x2 : Int32) (v : zV) (w : zV) (h : fX9_set x0 x1 x2 v = some w) : zMet l yX9_set cX9_set 3 (Option.none : Option FieldType) 1 80 0 0 [zr G x0, .int x1, .int x2] G v none w := by
  refine zM_of (own := RX9) (by decide) rfl (Nat.le_of_ble_eq_true rfl) (fun x hl F hr hk hcs => ?_)
  subst hl
  refine z_ls [(0, zr G x0), (1, .int x1), (2, .int x2)] [0, 1, 2] rfl ?_
  unfold fX9_set at h
  refine z_iload_n F dX9_set_0 rfl 1 rfl ?_
  refine z_if_lt F 14 dX9_set_1 rfl (fun hc => ?_) (fun hc => ?_)
  · replace h := zif_t hc h
    cases h
    exact z_retv F hr hk dX9_set_14
  · replace h := zif_f hc h
    refine z_iload_n F dX9_set_4 rfl 1 rfl ?_
    refine z_aload_n F dX9_set_5 rfl 0 rfl ?_
    refine z_alen0 F t0 dX9_set_6 rfl ?_
    refine z_icmp_ge F 14 dX9_set_7 rfl (fun hc => ?_) (fun hc => ?_)
    · replace h := zif_t hc h
      cases h
      exact z_retv F hr hk dX9_set_14
    · replace h := zif_f hc h
      refine z_aload_n F dX9_set_10 rfl 0 rfl ?_
      refine z_iload_n F dX9_set_11 rfl 1 rfl ?_
      refine z_iload_n F dX9_set_12 rfl 2 rfl ?_
      obtain ⟨hi13, h⟩ := zix_ex h
      refine z_iast F t0 dX9_set_13 hi13 ?_
      obtain ⟨v_1, ev_1, h⟩ := zlet_ex h
      refine z_heap ev_1 ?_
      cases h
      exact z_retv F hr hk dX9_set_14

theorem dX7_isWaiting_0 : decode cX7_isWaiting 0 = .ok (.aload_n 0, 1) := by decide +kernel
theorem dX7_isWaiting_1 : decode cX7_isWaiting 1 = .ok (.getfield 19, 3) := by decide +kernel
theorem dX7_isWaiting_4 : decode cX7_isWaiting 4 = .ok (.iload_n 1, 1) := by decide +kernel
theorem dX7_isWaiting_5 : decode cX7_isWaiting 5 = .ok (.invokestatic 60, 3) := by decide +kernel
theorem dX7_isWaiting_8 : decode cX7_isWaiting 8 = .ok (.ifCond .ne 7, 3) := by decide +kernel
theorem dX7_isWaiting_11 : decode cX7_isWaiting 11 = .ok (.iconst 1, 1) := by decide +kernel
theorem dX7_isWaiting_12 : decode cX7_isWaiting 12 = .ok (.goto 4, 3) := by decide +kernel
theorem dX7_isWaiting_15 : decode cX7_isWaiting 15 = .ok (.iconst 0, 1) := by decide +kernel
theorem dX7_isWaiting_16 : decode cX7_isWaiting 16 = .ok (.ireturn, 1) := by decide +kernel
def fX7_isWaiting (x0 : Nat) (x1 : Int32) (v : zV) : Option (Int32 × zV) :=
  zbind (fX9_get (zrf x0 9) x1 v) fun r_2 v_1 =>
  if r_2 = (0 : Int32) then
    some ((1 : Int32), v_1)
  else
    some ((0 : Int32), v_1)
set_option maxRecDepth 4000 in
theorem kX7_isWaiting (l : Launch) (G : zG) (x0 : Nat) (t0 : zty x0 1 7) (x1 : Int32) (v : zV) (r : Int32) (w : zV) (h : fX7_isWaiting x0 x1 v = some (r, w)) : zMet l yX7_isWaiting cX7_isWaiting 2 (Option.some FieldType.boolean) 2 101 0 0 [zr G x0, .int x1] G v (some (.int r)) w := by
  refine zM_of (own := RX7) (by decide) rfl (Nat.le_of_ble_eq_true rfl) (fun x hl F hr hk hcs => ?_)
  subst hl
  refine z_ls [(0, zr G x0), (1, .int x1)] [0, 1] rfl ?_
  unfold fX7_isWaiting at h
  refine z_aload_n F dX7_isWaiting_0 rfl 0 rfl ?_
  refine zg_7_9 F t0 wF_X7_19 dX7_isWaiting_1 ?_
  refine z_iload_n F dX7_isWaiting_4 rfl 1 rfl ?_
  obtain ⟨r_2, v_1, hq5, h⟩ := zbind_ex h
  refine z_callSNi F [zr G (zrf x0 9), .int x1] [] (kX9_get x.2.1 G (zrf x0 9) (zt_f tc_7_9 t0) x1 v r_2 v_1 hq5) mI_X9_get wN_X7_60 ms_X9_get dX7_isWaiting_5 rfl ⟨Nat.le_of_ble_eq_true rfl, Nat.le_of_ble_eq_true rfl⟩ rfl (Nat.le_of_ble_eq_true rfl) ⟨Nat.zero_le _, Nat.zero_le _⟩ ?_
  refine z_if_ne F 15 dX7_isWaiting_8 rfl (fun hc => ?_) (fun hc => ?_)
  · replace h := zif_f hc h
    refine z_iconst (y := (0 : Int32)) F dX7_isWaiting_15 rfl ?_
    cases h
    exact z_retz F hr hk rfl dX7_isWaiting_16
  · replace h := zif_t hc h
    refine z_iconst (y := (1 : Int32)) F dX7_isWaiting_11 rfl ?_
    refine z_goto F 16 dX7_isWaiting_12 rfl ?_
    cases h
    exact z_retz F hr hk rfl dX7_isWaiting_16

theorem dX7_chairOf_0 : decode cX7_chairOf 0 = .ok (.iconst 0, 1) := by decide +kernel
theorem dX7_chairOf_1 : decode cX7_chairOf 1 = .ok (.istore_n 2, 1) := by decide +kernel
theorem dX7_chairOf_2 : decode cX7_chairOf 2 = .ok (.iload_n 2, 1) := by decide +kernel
theorem dX7_chairOf_3 : decode cX7_chairOf 3 = .ok (.aload_n 0, 1) := by decide +kernel
theorem dX7_chairOf_4 : decode cX7_chairOf 4 = .ok (.getfield 31, 3) := by decide +kernel
theorem dX7_chairOf_7 : decode cX7_chairOf 7 = .ok (.if_icmp .ge 23, 3) := by decide +kernel
theorem dX7_chairOf_10 : decode cX7_chairOf 10 = .ok (.aload_n 0, 1) := by decide +kernel
theorem dX7_chairOf_11 : decode cX7_chairOf 11 = .ok (.getfield 15, 3) := by decide +kernel
theorem dX7_chairOf_14 : decode cX7_chairOf 14 = .ok (.iload_n 2, 1) := by decide +kernel
theorem dX7_chairOf_15 : decode cX7_chairOf 15 = .ok (.invokestatic 60, 3) := by decide +kernel
theorem dX7_chairOf_18 : decode cX7_chairOf 18 = .ok (.iload_n 1, 1) := by decide +kernel
theorem dX7_chairOf_19 : decode cX7_chairOf 19 = .ok (.if_icmp .ne 5, 3) := by decide +kernel
theorem dX7_chairOf_22 : decode cX7_chairOf 22 = .ok (.iload_n 2, 1) := by decide +kernel
theorem dX7_chairOf_23 : decode cX7_chairOf 23 = .ok (.ireturn, 1) := by decide +kernel
theorem dX7_chairOf_24 : decode cX7_chairOf 24 = .ok (.iinc 2 1, 3) := by decide +kernel
theorem dX7_chairOf_27 : decode cX7_chairOf 27 = .ok (.goto (-25), 3) := by decide +kernel
theorem dX7_chairOf_30 : decode cX7_chairOf 30 = .ok (.iconst (-1), 1) := by decide +kernel
theorem dX7_chairOf_31 : decode cX7_chairOf 31 = .ok (.ireturn, 1) := by decide +kernel
def fX7_chairOf_2  : Nat → Nat → Int32 → Int32 → zV → Option (Int32 × zV)
  | 0 => fun _ _ _ _ => none
  | n + 1 => fun x0 x1 x2 v =>
    if (v x0 1) ≤ x2 then
      some ((-1 : Int32), v)
    else
      zbind (fX9_get (zrf x0 8) x2 v) fun r_2 v_1 =>
      if r_2 = x1 then
        some (x2, v_1)
      else
        (fX7_chairOf_2 n) x0 x1 (x2 + (1 : Int32)) v_1
set_option maxRecDepth 4000 in
theorem jX7_chairOf_2 (x : zCx) (G : zG) (F : zF x G cX7_chairOf 3 RX7 2 101) (hr : x.2.2.2.2.2.2.2.2.1.sig.returnType = (Option.some FieldType.int)) (hk : x.2.2.2.2.2.2.2.2.1.locks = false) (r : Int32) (w : zV)  : ∀ (n : Nat) (x0 : Nat) (t0 : zty x0 1 7) (x1 : Int32) (x2 : Int32) (v : zV), fX7_chairOf_2 n x0 x1 x2 v = some (r, w) → zJ x G 3 (zQ x G (some (.int r)) w 0 0) 0 0 2 [(0, zr G x0), (1, .int x1), (2, .int x2)] [] v := by
  intro n
  induction n with
  | zero => intro x0 t0 x1 x2 v h; exact absurd h (by intro q; cases q)
  | succ n ih =>
    intro x0 t0 x1 x2 v h
    rw [fX7_chairOf_2] at h
    dsimp only at h
    refine z_iload_n F dX7_chairOf_2 rfl 2 rfl ?_
    refine z_aload_n F dX7_chairOf_3 rfl 0 rfl ?_
    refine zg_7_1 F t0 wF_X7_31 dX7_chairOf_4 ?_
    refine z_icmp_ge F 30 dX7_chairOf_7 rfl (fun hc => ?_) (fun hc => ?_)
    · replace h := zif_t hc h
      refine z_iconst (y := (-1 : Int32)) F dX7_chairOf_30 rfl ?_
      cases h
      exact z_reti F hr hk dX7_chairOf_31
    · replace h := zif_f hc h
      refine z_aload_n F dX7_chairOf_10 rfl 0 rfl ?_
      refine zg_7_8 F t0 wF_X7_15 dX7_chairOf_11 ?_
      refine z_iload_n F dX7_chairOf_14 rfl 2 rfl ?_
      obtain ⟨r_2, v_1, hq15, h⟩ := zbind_ex h
      refine z_callSNi F [zr G (zrf x0 8), .int x2] [] (kX9_get x.2.1 G (zrf x0 8) (zt_f tc_7_8 t0) x2 v r_2 v_1 hq15) mI_X9_get wN_X7_60 ms_X9_get dX7_chairOf_15 rfl ⟨Nat.le_of_ble_eq_true rfl, Nat.le_of_ble_eq_true rfl⟩ rfl (Nat.le_of_ble_eq_true rfl) ⟨Nat.zero_le _, Nat.zero_le _⟩ ?_
      refine z_iload_n F dX7_chairOf_18 rfl 1 rfl ?_
      refine z_icmp_ne F 24 dX7_chairOf_19 rfl (fun hc => ?_) (fun hc => ?_)
      · replace h := zif_f hc h
        refine z_iinc F [(2, .int (x2 + (1 : Int32))), (0, zr G x0), (1, .int x1)] dX7_chairOf_24 2 rfl rfl (Nat.le_of_ble_eq_true rfl) rfl ?_
        refine z_goto F 2 dX7_chairOf_27 rfl ?_
        refine z_ls [(0, zr G x0), (1, .int x1), (2, .int (x2 + (1 : Int32)))] [1, 2, 0] rfl ?_
        exact ih x0 t0 x1 (x2 + (1 : Int32)) v_1 h
      · replace h := zif_t hc h
        refine z_iload_n F dX7_chairOf_22 rfl 2 rfl ?_
        cases h
        exact z_reti F hr hk dX7_chairOf_23

def fX7_chairOf (x0 : Nat) (x1 : Int32) (v : zV) : Option (Int32 × zV) :=
  fX7_chairOf_2  zFU x0 x1 (0 : Int32) v
set_option maxRecDepth 4000 in
theorem kX7_chairOf (l : Launch) (G : zG) (x0 : Nat) (t0 : zty x0 1 7) (x1 : Int32) (v : zV) (r : Int32) (w : zV) (h : fX7_chairOf x0 x1 v = some (r, w)) : zMet l yX7_chairOf cX7_chairOf 3 (Option.some FieldType.int) 2 101 0 0 [zr G x0, .int x1] G v (some (.int r)) w := by
  refine zM_of (own := RX7) (by decide) rfl (Nat.le_of_ble_eq_true rfl) (fun x hl F hr hk hcs => ?_)
  subst hl
  refine z_ls [(0, zr G x0), (1, .int x1)] [0, 1] rfl ?_
  unfold fX7_chairOf at h
  refine z_iconst (y := (0 : Int32)) F dX7_chairOf_0 rfl ?_
  refine z_istore_n F [(2, .int (0 : Int32)), (0, zr G x0), (1, .int x1)] dX7_chairOf_1 rfl (Nat.le_of_ble_eq_true rfl) rfl ?_
  refine z_ls [(0, zr G x0), (1, .int x1), (2, .int (0 : Int32))] [1, 2, 0] rfl ?_
  exact jX7_chairOf_2 x G F hr hk r w   zFU x0 t0 x1 (0 : Int32) v h

theorem dX7_sitDown_0 : decode cX7_sitDown 0 = .ok (.aload_n 0, 1) := by decide +kernel
theorem dX7_sitDown_1 : decode cX7_sitDown 1 = .ok (.getfield 31, 3) := by decide +kernel
theorem dX7_sitDown_4 : decode cX7_sitDown 4 = .ok (.aload_n 0, 1) := by decide +kernel
theorem dX7_sitDown_5 : decode cX7_sitDown 5 = .ok (.getfield 15, 3) := by decide +kernel
theorem dX7_sitDown_8 : decode cX7_sitDown 8 = .ok (.arraylength, 1) := by decide +kernel
theorem dX7_sitDown_9 : decode cX7_sitDown 9 = .ok (.if_icmp .ge 43, 3) := by decide +kernel
theorem dX7_sitDown_12 : decode cX7_sitDown 12 = .ok (.aload_n 0, 1) := by decide +kernel
theorem dX7_sitDown_13 : decode cX7_sitDown 13 = .ok (.getfield 15, 3) := by decide +kernel
theorem dX7_sitDown_16 : decode cX7_sitDown 16 = .ok (.aload_n 0, 1) := by decide +kernel
theorem dX7_sitDown_17 : decode cX7_sitDown 17 = .ok (.getfield 31, 3) := by decide +kernel
theorem dX7_sitDown_20 : decode cX7_sitDown 20 = .ok (.iload_n 1, 1) := by decide +kernel
theorem dX7_sitDown_21 : decode cX7_sitDown 21 = .ok (.invokestatic 74, 3) := by decide +kernel
theorem dX7_sitDown_24 : decode cX7_sitDown 24 = .ok (.aload_n 0, 1) := by decide +kernel
theorem dX7_sitDown_25 : decode cX7_sitDown 25 = .ok (.dup, 1) := by decide +kernel
theorem dX7_sitDown_26 : decode cX7_sitDown 26 = .ok (.getfield 31, 3) := by decide +kernel
theorem dX7_sitDown_29 : decode cX7_sitDown 29 = .ok (.iconst 1, 1) := by decide +kernel
theorem dX7_sitDown_30 : decode cX7_sitDown 30 = .ok (.iadd, 1) := by decide +kernel
theorem dX7_sitDown_31 : decode cX7_sitDown 31 = .ok (.putfield 31, 3) := by decide +kernel
theorem dX7_sitDown_34 : decode cX7_sitDown 34 = .ok (.aload_n 0, 1) := by decide +kernel
theorem dX7_sitDown_35 : decode cX7_sitDown 35 = .ok (.getfield 19, 3) := by decide +kernel
theorem dX7_sitDown_38 : decode cX7_sitDown 38 = .ok (.iload_n 1, 1) := by decide +kernel
theorem dX7_sitDown_39 : decode cX7_sitDown 39 = .ok (.iconst 1, 1) := by decide +kernel
theorem dX7_sitDown_40 : decode cX7_sitDown 40 = .ok (.invokestatic 74, 3) := by decide +kernel
theorem dX7_sitDown_43 : decode cX7_sitDown 43 = .ok (.aload_n 0, 1) := by decide +kernel
theorem dX7_sitDown_44 : decode cX7_sitDown 44 = .ok (.getfield 25, 3) := by decide +kernel
theorem dX7_sitDown_47 : decode cX7_sitDown 47 = .ok (.iload_n 1, 1) := by decide +kernel
theorem dX7_sitDown_48 : decode cX7_sitDown 48 = .ok (.iload_n 2, 1) := by decide +kernel
theorem dX7_sitDown_49 : decode cX7_sitDown 49 = .ok (.invokestatic 74, 3) := by decide +kernel
theorem dX7_sitDown_52 : decode cX7_sitDown 52 = .ok (.return_, 1) := by decide +kernel
def fX7_sitDown (x0 : Nat) (x1 : Int32) (x2 : Int32) (v : zV) : Option zV :=
  if (Int32.ofNat (zlen (zrf x0 8))) ≤ (v x0 1) then
    some v
  else
    zbindv (fX9_set (zrf x0 8) (v x0 1) x1 v) fun v_1 =>
    zlet (zup v_1 x0 1 ((v_1 x0 1) + (1 : Int32))) fun v_2 =>
    zbindv (fX9_set (zrf x0 9) x1 (1 : Int32) v_2) fun v_3 =>
    zbindv (fX9_set (zrf x0 11) x1 x2 v_3) fun v_4 =>
    some v_4
set_option maxRecDepth 4000 in
theorem kX7_sitDown (l : Launch) (G : zG) (x0 : Nat) (t0 : zty x0 1 7) (x1 : Int32) (x2 : Int32) (v : zV) (w : zV) (h : fX7_sitDown x0 x1 x2 v = some w) : zMet l yX7_sitDown cX7_sitDown 3 (Option.none : Option FieldType) 2 102 0 0 [zr G x0, .int x1, .int x2] G v none w := by
  refine zM_of (own := RX7) (by decide) rfl (Nat.le_of_ble_eq_true rfl) (fun x hl F hr hk hcs => ?_)
  subst hl
  refine z_ls [(0, zr G x0), (1, .int x1), (2, .int x2)] [0, 1, 2] rfl ?_
  unfold fX7_sitDown at h
  refine z_aload_n F dX7_sitDown_0 rfl 0 rfl ?_
  refine zg_7_1 F t0 wF_X7_31 dX7_sitDown_1 ?_
  refine z_aload_n F dX7_sitDown_4 rfl 0 rfl ?_
  refine zg_7_8 F t0 wF_X7_15 dX7_sitDown_5 ?_
  refine z_alen0 F (zt_f tc_7_8 t0) dX7_sitDown_8 rfl ?_
  refine z_icmp_ge F 52 dX7_sitDown_9 rfl (fun hc => ?_) (fun hc => ?_)
  · replace h := zif_t hc h
    cases h
    exact z_retv F hr hk dX7_sitDown_52
  · replace h := zif_f hc h
    refine z_aload_n F dX7_sitDown_12 rfl 0 rfl ?_
    refine zg_7_8 F t0 wF_X7_15 dX7_sitDown_13 ?_
    refine z_aload_n F dX7_sitDown_16 rfl 0 rfl ?_
    refine zg_7_1 F t0 wF_X7_31 dX7_sitDown_17 ?_
    refine z_iload_n F dX7_sitDown_20 rfl 1 rfl ?_
    obtain ⟨v_1, hq21, h⟩ := zbindv_ex h
    refine z_callSNv F [zr G (zrf x0 8), .int (v x0 1), .int x1] [] (kX9_set x.2.1 G (zrf x0 8) (zt_f tc_7_8 t0) (v x0 1) x1 v v_1 hq21) mI_X9_set wN_X7_74 ms_X9_set dX7_sitDown_21 rfl ⟨Nat.le_of_ble_eq_true rfl, Nat.le_of_ble_eq_true rfl⟩ rfl (Nat.le_of_ble_eq_true rfl) ⟨Nat.zero_le _, Nat.zero_le _⟩ ?_
    refine z_aload_n F dX7_sitDown_24 rfl 0 rfl ?_
    refine z_dup F dX7_sitDown_25 rfl ?_
    refine zg_7_1 F t0 wF_X7_31 dX7_sitDown_26 ?_
    refine z_iconst (y := (1 : Int32)) F dX7_sitDown_29 rfl ?_
    refine z_iadd F dX7_sitDown_30 ?_
    refine zp_7_1 F t0 wF_X7_31 dX7_sitDown_31 ?_
    obtain ⟨v_2, ev_2, h⟩ := zlet_ex h
    refine z_heap ev_2 ?_
    refine z_aload_n F dX7_sitDown_34 rfl 0 rfl ?_
    refine zg_7_9 F t0 wF_X7_19 dX7_sitDown_35 ?_
    refine z_iload_n F dX7_sitDown_38 rfl 1 rfl ?_
    refine z_iconst (y := (1 : Int32)) F dX7_sitDown_39 rfl ?_
    obtain ⟨v_3, hq40, h⟩ := zbindv_ex h
    refine z_callSNv F [zr G (zrf x0 9), .int x1, .int (1 : Int32)] [] (kX9_set x.2.1 G (zrf x0 9) (zt_f tc_7_9 t0) x1 (1 : Int32) v_2 v_3 hq40) mI_X9_set wN_X7_74 ms_X9_set dX7_sitDown_40 rfl ⟨Nat.le_of_ble_eq_true rfl, Nat.le_of_ble_eq_true rfl⟩ rfl (Nat.le_of_ble_eq_true rfl) ⟨Nat.zero_le _, Nat.zero_le _⟩ ?_
    refine z_aload_n F dX7_sitDown_43 rfl 0 rfl ?_
    refine zg_7_11 F t0 wF_X7_25 dX7_sitDown_44 ?_
    refine z_iload_n F dX7_sitDown_47 rfl 1 rfl ?_
    refine z_iload_n F dX7_sitDown_48 rfl 2 rfl ?_
    obtain ⟨v_4, hq49, h⟩ := zbindv_ex h
    refine z_callSNv F [zr G (zrf x0 11), .int x1, .int x2] [] (kX9_set x.2.1 G (zrf x0 11) (zt_f tc_7_11 t0) x1 x2 v_3 v_4 hq49) mI_X9_set wN_X7_74 ms_X9_set dX7_sitDown_49 rfl ⟨Nat.le_of_ble_eq_true rfl, Nat.le_of_ble_eq_true rfl⟩ rfl (Nat.le_of_ble_eq_true rfl) ⟨Nat.zero_le _, Nat.zero_le _⟩ ?_
    cases h
    exact z_retv F hr hk dX7_sitDown_52

theorem dX7_vacate_0 : decode cX7_vacate 0 = .ok (.iload_n 1, 1) := by decide +kernel
theorem dX7_vacate_1 : decode cX7_vacate 1 = .ok (.ifCond .lt 11, 3) := by decide +kernel
theorem dX7_vacate_4 : decode cX7_vacate 4 = .ok (.iload_n 1, 1) := by decide +kernel
theorem dX7_vacate_5 : decode cX7_vacate 5 = .ok (.aload_n 0, 1) := by decide +kernel
theorem dX7_vacate_6 : decode cX7_vacate 6 = .ok (.getfield 31, 3) := by decide +kernel
theorem dX7_vacate_9 : decode cX7_vacate 9 = .ok (.if_icmp .lt 4, 3) := by decide +kernel
theorem dX7_vacate_12 : decode cX7_vacate 12 = .ok (.return_, 1) := by decide +kernel
theorem dX7_vacate_13 : decode cX7_vacate 13 = .ok (.iload_n 1, 1) := by decide +kernel
theorem dX7_vacate_14 : decode cX7_vacate 14 = .ok (.iconst 1, 1) := by decide +kernel
theorem dX7_vacate_15 : decode cX7_vacate 15 = .ok (.iadd, 1) := by decide +kernel
theorem dX7_vacate_16 : decode cX7_vacate 16 = .ok (.istore_n 2, 1) := by decide +kernel
theorem dX7_vacate_17 : decode cX7_vacate 17 = .ok (.iload_n 2, 1) := by decide +kernel
theorem dX7_vacate_18 : decode cX7_vacate 18 = .ok (.aload_n 0, 1) := by decide +kernel
theorem dX7_vacate_19 : decode cX7_vacate 19 = .ok (.getfield 31, 3) := by decide +kernel
theorem dX7_vacate_22 : decode cX7_vacate 22 = .ok (.if_icmp .ge 27, 3) := by decide +kernel
theorem dX7_vacate_25 : decode cX7_vacate 25 = .ok (.aload_n 0, 1) := by decide +kernel
theorem dX7_vacate_26 : decode cX7_vacate 26 = .ok (.getfield 15, 3) := by decide +kernel
theorem dX7_vacate_29 : decode cX7_vacate 29 = .ok (.iload_n 2, 1) := by decide +kernel
theorem dX7_vacate_30 : decode cX7_vacate 30 = .ok (.iconst 1, 1) := by decide +kernel
theorem dX7_vacate_31 : decode cX7_vacate 31 = .ok (.isub, 1) := by decide +kernel
theorem dX7_vacate_32 : decode cX7_vacate 32 = .ok (.aload_n 0, 1) := by decide +kernel
theorem dX7_vacate_33 : decode cX7_vacate 33 = .ok (.getfield 15, 3) := by decide +kernel
theorem dX7_vacate_36 : decode cX7_vacate 36 = .ok (.iload_n 2, 1) := by decide +kernel
theorem dX7_vacate_37 : decode cX7_vacate 37 = .ok (.invokestatic 60, 3) := by decide +kernel
theorem dX7_vacate_40 : decode cX7_vacate 40 = .ok (.invokestatic 74, 3) := by decide +kernel
theorem dX7_vacate_43 : decode cX7_vacate 43 = .ok (.iinc 2 1, 3) := by decide +kernel
theorem dX7_vacate_46 : decode cX7_vacate 46 = .ok (.goto (-29), 3) := by decide +kernel
theorem dX7_vacate_49 : decode cX7_vacate 49 = .ok (.aload_n 0, 1) := by decide +kernel
theorem dX7_vacate_50 : decode cX7_vacate 50 = .ok (.dup, 1) := by decide +kernel
theorem dX7_vacate_51 : decode cX7_vacate 51 = .ok (.getfield 31, 3) := by decide +kernel
theorem dX7_vacate_54 : decode cX7_vacate 54 = .ok (.iconst 1, 1) := by decide +kernel
theorem dX7_vacate_55 : decode cX7_vacate 55 = .ok (.isub, 1) := by decide +kernel
theorem dX7_vacate_56 : decode cX7_vacate 56 = .ok (.putfield 31, 3) := by decide +kernel
theorem dX7_vacate_59 : decode cX7_vacate 59 = .ok (.return_, 1) := by decide +kernel
def fX7_vacate_17  : Nat → Nat → Int32 → zV → Option zV
  | 0 => fun _ _ _ => none
  | n + 1 => fun x0 x2 v =>
    if (v x0 1) ≤ x2 then
      zlet (zup v x0 1 ((v x0 1) - (1 : Int32))) fun v_1 =>
      some v_1
    else
      zbind (fX9_get (zrf x0 8) x2 v) fun r_3 v_2 =>
      zbindv (fX9_set (zrf x0 8) (x2 - (1 : Int32)) r_3 v_2) fun v_4 =>
      (fX7_vacate_17 n) x0 (x2 + (1 : Int32)) v_4
set_option maxRecDepth 4000 in
theorem jX7_vacate_17 (x : zCx) (G : zG) (F : zF x G cX7_vacate 3 RX7 2 102) (hr : x.2.2.2.2.2.2.2.2.1.sig.returnType = (Option.none : Option FieldType)) (hk : x.2.2.2.2.2.2.2.2.1.locks = false) (w : zV)  : ∀ (n : Nat) (x0 : Nat) (t0 : zty x0 1 7) (x2 : Int32) (v : zV), fX7_vacate_17 n x0 x2 v = some w → zJ x G 3 (zQ x G none w 0 0) 0 0 17 [(0, zr G x0), (2, .int x2)] [] v := by
  intro n
  induction n with
  | zero => intro x0 t0 x2 v h; exact absurd h (by intro q; cases q)
  | succ n ih =>
    intro x0 t0 x2 v h
    rw [fX7_vacate_17] at h
    dsimp only at h
    refine z_iload_n F dX7_vacate_17 rfl 1 rfl ?_
    refine z_aload_n F dX7_vacate_18 rfl 0 rfl ?_
    refine zg_7_1 F t0 wF_X7_31 dX7_vacate_19 ?_
    refine z_icmp_ge F 49 dX7_vacate_22 rfl (fun hc => ?_) (fun hc => ?_)
    · replace h := zif_t hc h
      refine z_aload_n F dX7_vacate_49 rfl 0 rfl ?_
      refine z_dup F dX7_vacate_50 rfl ?_
      refine zg_7_1 F t0 wF_X7_31 dX7_vacate_51 ?_
      refine z_iconst (y := (1 : Int32)) F dX7_vacate_54 rfl ?_
      refine z_isub F dX7_vacate_55 ?_
      refine zp_7_1 F t0 wF_X7_31 dX7_vacate_56 ?_
      obtain ⟨v_1, ev_1, h⟩ := zlet_ex h
      refine z_heap ev_1 ?_
      cases h
      exact z_retv F hr hk dX7_vacate_59
    · replace h := zif_f hc h
      refine z_aload_n F dX7_vacate_25 rfl 0 rfl ?_
      refine zg_7_8 F t0 wF_X7_15 dX7_vacate_26 ?_
      refine z_iload_n F dX7_vacate_29 rfl 1 rfl ?_
      refine z_iconst (y := (1 : Int32)) F dX7_vacate_30 rfl ?_
      refine z_isub F dX7_vacate_31 ?_
      refine z_aload_n F dX7_vacate_32 rfl 0 rfl ?_
      refine zg_7_8 F t0 wF_X7_15 dX7_vacate_33 ?_
      refine z_iload_n F dX7_vacate_36 rfl 1 rfl ?_
      obtain ⟨r_3, v_2, hq37, h⟩ := zbind_ex h
      refine z_callSNi F [zr G (zrf x0 8), .int x2] [.int (x2 - (1 : Int32)), zr G (zrf x0 8)] (kX9_get x.2.1 G (zrf x0 8) (zt_f tc_7_8 t0) x2 v r_3 v_2 hq37) mI_X9_get wN_X7_60 ms_X9_get dX7_vacate_37 rfl ⟨Nat.le_of_ble_eq_true rfl, Nat.le_of_ble_eq_true rfl⟩ rfl (Nat.le_of_ble_eq_true rfl) ⟨Nat.zero_le _, Nat.zero_le _⟩ ?_
      obtain ⟨v_4, hq40, h⟩ := zbindv_ex h
      refine z_callSNv F [zr G (zrf x0 8), .int (x2 - (1 : Int32)), .int r_3] [] (kX9_set x.2.1 G (zrf x0 8) (zt_f tc_7_8 t0) (x2 - (1 : Int32)) r_3 v_2 v_4 hq40) mI_X9_set wN_X7_74 ms_X9_set dX7_vacate_40 rfl ⟨Nat.le_of_ble_eq_true rfl, Nat.le_of_ble_eq_true rfl⟩ rfl (Nat.le_of_ble_eq_true rfl) ⟨Nat.zero_le _, Nat.zero_le _⟩ ?_
      refine z_iinc F [(2, .int (x2 + (1 : Int32))), (0, zr G x0)] dX7_vacate_43 1 rfl rfl (Nat.le_of_ble_eq_true rfl) rfl ?_
      refine z_goto F 17 dX7_vacate_46 rfl ?_
      refine z_ls [(0, zr G x0), (2, .int (x2 + (1 : Int32)))] [1, 0] rfl ?_
      exact ih x0 t0 (x2 + (1 : Int32)) v_4 h

def fX7_vacate (x0 : Nat) (x1 : Int32) (v : zV) : Option zV :=
  if x1 < (0 : Int32) then
    some v
  else
    if x1 < (v x0 1) then
      fX7_vacate_17  zFU x0 (x1 + (1 : Int32)) v
    else
      some v
set_option maxRecDepth 4000 in
theorem kX7_vacate (l : Launch) (G : zG) (x0 : Nat) (t0 : zty x0 1 7) (x1 : Int32) (v : zV) (w : zV) (h : fX7_vacate x0 x1 v = some w) : zMet l yX7_vacate cX7_vacate 3 (Option.none : Option FieldType) 2 102 0 0 [zr G x0, .int x1] G v none w := by
  refine zM_of (own := RX7) (by decide) rfl (Nat.le_of_ble_eq_true rfl) (fun x hl F hr hk hcs => ?_)
  subst hl
  refine z_ls [(0, zr G x0), (1, .int x1)] [0, 1] rfl ?_
  unfold fX7_vacate at h
  refine z_iload_n F dX7_vacate_0 rfl 1 rfl ?_
  refine z_if_lt F 12 dX7_vacate_1 rfl (fun hc => ?_) (fun hc => ?_)
  · replace h := zif_t hc h
    cases h
    exact z_retv F hr hk dX7_vacate_12
  · replace h := zif_f hc h
    refine z_iload_n F dX7_vacate_4 rfl 1 rfl ?_
    refine z_aload_n F dX7_vacate_5 rfl 0 rfl ?_
    refine zg_7_1 F t0 wF_X7_31 dX7_vacate_6 ?_
    refine z_icmp_lt F 13 dX7_vacate_9 rfl (fun hc => ?_) (fun hc => ?_)
    · replace h := zif_t hc h
      refine z_iload_n F dX7_vacate_13 rfl 1 rfl ?_
      refine z_iconst (y := (1 : Int32)) F dX7_vacate_14 rfl ?_
      refine z_iadd F dX7_vacate_15 ?_
      refine z_istore_n F [(2, .int (x1 + (1 : Int32))), (0, zr G x0), (1, .int x1)] dX7_vacate_16 rfl (Nat.le_of_ble_eq_true rfl) rfl ?_
      refine z_ls [(0, zr G x0), (2, .int (x1 + (1 : Int32)))] [1, 0] rfl ?_
      exact jX7_vacate_17 x G F hr hk w   zFU x0 t0 (x1 + (1 : Int32)) v h
    · replace h := zif_f hc h
      cases h
      exact z_retv F hr hk dX7_vacate_12

