theorem dX10_tellsNothing_0 : decode cX10_tellsNothing 0 = .ok (.iconst 0, 1) := by decide +kernel
theorem dX10_tellsNothing_1 : decode cX10_tellsNothing 1 = .ok (.istore_n 1, 1) := by decide +kernel
theorem dX10_tellsNothing_2 : decode cX10_tellsNothing 2 = .ok (.iload_n 1, 1) := by decide +kernel
theorem dX10_tellsNothing_3 : decode cX10_tellsNothing 3 = .ok (.bipush 6, 2) := by decide +kernel
theorem dX10_tellsNothing_5 : decode cX10_tellsNothing 5 = .ok (.if_icmp .ge 16, 3) := by decide +kernel
theorem dX10_tellsNothing_8 : decode cX10_tellsNothing 8 = .ok (.aload_n 0, 1) := by decide +kernel
theorem dX10_tellsNothing_9 : decode cX10_tellsNothing 9 = .ok (.getfield 20, 3) := by decide +kernel
theorem dX10_tellsNothing_12 : decode cX10_tellsNothing 12 = .ok (.iload_n 1, 1) := by decide +kernel
theorem dX10_tellsNothing_13 : decode cX10_tellsNothing 13 = .ok (.iconst 0, 1) := by decide +kernel
theorem dX10_tellsNothing_14 : decode cX10_tellsNothing 14 = .ok (.iastore, 1) := by decide +kernel
theorem dX10_tellsNothing_15 : decode cX10_tellsNothing 15 = .ok (.iinc 1 1, 3) := by decide +kernel
theorem dX10_tellsNothing_18 : decode cX10_tellsNothing 18 = .ok (.goto (-16), 3) := by decide +kernel
theorem dX10_tellsNothing_21 : decode cX10_tellsNothing 21 = .ok (.aload_n 0, 1) := by decide +kernel
theorem dX10_tellsNothing_22 : decode cX10_tellsNothing 22 = .ok (.getfield 20, 3) := by decide +kernel
theorem dX10_tellsNothing_25 : decode cX10_tellsNothing 25 = .ok (.iconst 2, 1) := by decide +kernel
theorem dX10_tellsNothing_26 : decode cX10_tellsNothing 26 = .ok (.bipush 6, 2) := by decide +kernel
theorem dX10_tellsNothing_28 : decode cX10_tellsNothing 28 = .ok (.iastore, 1) := by decide +kernel
theorem dX10_tellsNothing_29 : decode cX10_tellsNothing 29 = .ok (.aload_n 0, 1) := by decide +kernel
theorem dX10_tellsNothing_30 : decode cX10_tellsNothing 30 = .ok (.iconst 0, 1) := by decide +kernel
theorem dX10_tellsNothing_31 : decode cX10_tellsNothing 31 = .ok (.putfield 130, 3) := by decide +kernel
theorem dX10_tellsNothing_34 : decode cX10_tellsNothing 34 = .ok (.return_, 1) := by decide +kernel
def fX10_tellsNothing_2  : Nat → Nat → Int32 → zV → Option zV
  | 0 => fun _ _ _ => none
  | n + 1 => fun x0 x1 v =>
    if (6 : Int32) ≤ x1 then
      zix (2 : Int32) (zlen (zrf x0 11)) <|
      zlet (zup v (zrf x0 11) ((2 : Int32)).toNatClampNeg (6 : Int32)) fun v_1 =>
      zlet (zup v_1 x0 25 (0 : Int32)) fun v_2 =>
      some v_2
    else
      zix x1 (zlen (zrf x0 11)) <|
      zlet (zup v (zrf x0 11) (x1).toNatClampNeg (0 : Int32)) fun v_3 =>
      (fX10_tellsNothing_2 n) x0 (x1 + (1 : Int32)) v_3
set_option maxRecDepth 4000 in
theorem jX10_tellsNothing_2 (x : zCx) (G : zG) (F : zF x G cX10_tellsNothing 2 RX10 1 80) (hr : x.2.2.2.2.2.2.2.2.1.sig.returnType = (Option.none : Option FieldType)) (hk : x.2.2.2.2.2.2.2.2.1.locks = false) (w : zV)  : ∀ (n : Nat) (x0 : Nat) (t0 : zty G x0 1 10) (x1 : Int32) (v : zV), fX10_tellsNothing_2 n x0 x1 v = some w → zJ x G 2 (zQ x G none w 0 0) 0 0 2 [(0, zr G x0), (1, .int x1)] [] v := by
  intro n
  induction n with
  | zero => intro x0 t0 x1 v h; exact absurd h (by intro q; cases q)
  | succ n ih =>
    intro x0 t0 x1 v h
    rw [fX10_tellsNothing_2] at h
    dsimp only at h
    refine z_iload_n F dX10_tellsNothing_2 rfl 1 rfl ?_
    refine z_bipush (y := (6 : Int32)) F dX10_tellsNothing_3 rfl ?_
    refine z_icmp_ge F 21 dX10_tellsNothing_5 rfl (fun hc => ?_) (fun hc => ?_)
    · replace h := zif_t hc h
      refine z_aload_n F dX10_tellsNothing_21 rfl 0 rfl ?_
      refine zg_10_11 F t0 wF_X10_20 dX10_tellsNothing_22 ?_
      refine z_iconst (y := (2 : Int32)) F dX10_tellsNothing_25 rfl ?_
      refine z_bipush (y := (6 : Int32)) F dX10_tellsNothing_26 rfl ?_
      obtain ⟨hi28, h⟩ := zix_ex h
      refine z_iast F (zt_f tc_10_11 t0) dX10_tellsNothing_28 hi28 ?_
      obtain ⟨v_1, ev_1, h⟩ := zlet_ex h
      refine z_heap ev_1 ?_
      refine z_aload_n F dX10_tellsNothing_29 rfl 0 rfl ?_
      refine z_iconst (y := (0 : Int32)) F dX10_tellsNothing_30 rfl ?_
      refine zp_10_25 F rfl rfl t0 wF_X10_130 dX10_tellsNothing_31 ?_
      obtain ⟨v_2, ev_2, h⟩ := zlet_ex h
      refine z_heap ev_2 ?_
      cases h
      exact z_retv F hr hk dX10_tellsNothing_34
    · replace h := zif_f hc h
      refine z_aload_n F dX10_tellsNothing_8 rfl 0 rfl ?_
      refine zg_10_11 F t0 wF_X10_20 dX10_tellsNothing_9 ?_
      refine z_iload_n F dX10_tellsNothing_12 rfl 1 rfl ?_
      refine z_iconst (y := (0 : Int32)) F dX10_tellsNothing_13 rfl ?_
      obtain ⟨hi14, h⟩ := zix_ex h
      refine z_iast F (zt_f tc_10_11 t0) dX10_tellsNothing_14 hi14 ?_
      obtain ⟨v_3, ev_3, h⟩ := zlet_ex h
      refine z_heap ev_3 ?_
      refine z_iinc F [(1, .int (x1 + (1 : Int32))), (0, zr G x0)] dX10_tellsNothing_15 1 rfl rfl (Nat.le_of_ble_eq_true rfl) rfl ?_
      refine z_goto F 2 dX10_tellsNothing_18 rfl ?_
      refine z_ls [(0, zr G x0), (1, .int (x1 + (1 : Int32)))] [1, 0] rfl ?_
      exact ih x0 t0 (x1 + (1 : Int32)) v_3 h

def fX10_tellsNothing (x0 : Nat) (v : zV) : Option zV :=
  fX10_tellsNothing_2  zFU x0 (0 : Int32) v
set_option maxRecDepth 4000 in
theorem kX10_tellsNothing (l : Launch) (G : zG) (x0 : Nat) (t0 : zty G x0 1 10) (v : zV) (w : zV) (h : fX10_tellsNothing x0 v = some w) : zMet l yX10_tellsNothing cX10_tellsNothing 2 (Option.none : Option FieldType) 1 80 0 0 [zr G x0] G v none w := by
  refine zM_of (own := RX10) (by decide) rfl (Nat.le_of_ble_eq_true rfl) (fun x hl F hr hk hcs => ?_)
  subst hl
  refine z_ls [(0, zr G x0)] [0] rfl ?_
  unfold fX10_tellsNothing at h
  refine z_iconst (y := (0 : Int32)) F dX10_tellsNothing_0 rfl ?_
  refine z_istore_n F [(1, .int (0 : Int32)), (0, zr G x0)] dX10_tellsNothing_1 rfl (Nat.le_of_ble_eq_true rfl) rfl ?_
  refine z_ls [(0, zr G x0), (1, .int (0 : Int32))] [1, 0] rfl ?_
  exact jX10_tellsNothing_2 x G F hr hk w   zFU x0 t0 (0 : Int32) v h

theorem dX10_thrown_0 : decode cX10_thrown 0 = .ok (.aload_n 0, 1) := by decide +kernel
theorem dX10_thrown_1 : decode cX10_thrown 1 = .ok (.getfield 134, 3) := by decide +kernel
theorem dX10_thrown_4 : decode cX10_thrown 4 = .ok (.ireturn, 1) := by decide +kernel
def fX10_thrown (x0 : Nat) (v : zV) : Option (Int32 × zV) :=
  some (v x0 0, v)
set_option maxRecDepth 4000 in
theorem kX10_thrown (l : Launch) (G : zG) (x0 : Nat) (t0 : zty G x0 1 10) (v : zV) (r : Int32) (w : zV) (h : fX10_thrown x0 v = some (r, w)) : zMet l yX10_thrown cX10_thrown 1 (Option.some FieldType.int) 1 80 0 0 [zr G x0] G v (some (.int r)) w := by
  refine zM_of (own := RX10) (by decide) rfl (Nat.le_of_ble_eq_true rfl) (fun x hl F hr hk hcs => ?_)
  subst hl
  refine z_ls [(0, zr G x0)] [0] rfl ?_
  unfold fX10_thrown at h
  refine z_aload_n F dX10_thrown_0 rfl 0 rfl ?_
  refine zg_10_0 F t0 wF_X10_134 dX10_thrown_1 ?_
  cases h
  exact z_reti F hr hk dX10_thrown_4

theorem dX10_bad_0 : decode cX10_bad 0 = .ok (.iload_n 1, 1) := by decide +kernel
theorem dX10_bad_1 : decode cX10_bad 1 = .ok (.ifCond .eq 25, 3) := by decide +kernel
theorem dX10_bad_4 : decode cX10_bad 4 = .ok (.aload_n 0, 1) := by decide +kernel
theorem dX10_bad_5 : decode cX10_bad 5 = .ok (.getfield 134, 3) := by decide +kernel
theorem dX10_bad_8 : decode cX10_bad 8 = .ok (.ifCond .ne 18, 3) := by decide +kernel
theorem dX10_bad_11 : decode cX10_bad 11 = .ok (.aload_n 0, 1) := by decide +kernel
theorem dX10_bad_12 : decode cX10_bad 12 = .ok (.iload_n 2, 1) := by decide +kernel
theorem dX10_bad_13 : decode cX10_bad 13 = .ok (.putfield 134, 3) := by decide +kernel
theorem dX10_bad_16 : decode cX10_bad 16 = .ok (.aload_n 0, 1) := by decide +kernel
theorem dX10_bad_17 : decode cX10_bad 17 = .ok (.getfield 17, 3) := by decide +kernel
theorem dX10_bad_20 : decode cX10_bad 20 = .ok (.iload_n 3, 1) := by decide +kernel
theorem dX10_bad_21 : decode cX10_bad 21 = .ok (.dup2, 1) := by decide +kernel
theorem dX10_bad_22 : decode cX10_bad 22 = .ok (.iaload, 1) := by decide +kernel
theorem dX10_bad_23 : decode cX10_bad 23 = .ok (.iconst 1, 1) := by decide +kernel
theorem dX10_bad_24 : decode cX10_bad 24 = .ok (.iadd, 1) := by decide +kernel
theorem dX10_bad_25 : decode cX10_bad 25 = .ok (.iastore, 1) := by decide +kernel
theorem dX10_bad_26 : decode cX10_bad 26 = .ok (.aload_n 0, 1) := by decide +kernel
theorem dX10_bad_27 : decode cX10_bad 27 = .ok (.getfield 134, 3) := by decide +kernel
theorem dX10_bad_30 : decode cX10_bad 30 = .ok (.ifCond .eq 7, 3) := by decide +kernel
theorem dX10_bad_33 : decode cX10_bad 33 = .ok (.iconst 1, 1) := by decide +kernel
theorem dX10_bad_34 : decode cX10_bad 34 = .ok (.goto 4, 3) := by decide +kernel
theorem dX10_bad_37 : decode cX10_bad 37 = .ok (.iconst 0, 1) := by decide +kernel
theorem dX10_bad_38 : decode cX10_bad 38 = .ok (.ireturn, 1) := by decide +kernel
def fX10_bad (x0 : Nat) (x1 : Int32) (x2 : Int32) (x3 : Int32) (v : zV) : Option (Int32 × zV) :=
  if x1 = (0 : Int32) then
    if (v x0 0) = (0 : Int32) then
      some ((0 : Int32), v)
    else
      some ((1 : Int32), v)
  else
    if (v x0 0) = (0 : Int32) then
      zlet (zup v x0 0 x2) fun v_1 =>
      zix x3 (zlen (zrf x0 10)) <|
      zix x3 (zlen (zrf x0 10)) <|
      zlet (zup v_1 (zrf x0 10) (x3).toNatClampNeg ((v_1 (zrf x0 10) (x3).toNatClampNeg) + (1 : Int32))) fun v_2 =>
      if (v_2 x0 0) = (0 : Int32) then
        some ((0 : Int32), v_2)
      else
        some ((1 : Int32), v_2)
    else
      if (v x0 0) = (0 : Int32) then
        some ((0 : Int32), v)
      else
        some ((1 : Int32), v)
set_option maxRecDepth 4000 in
theorem kX10_bad (l : Launch) (G : zG) (x0 : Nat) (t0 : zty G x0 1 10) (x1 : Int32) (x2 : Int32) (x3 : Int32) (v : zV) (r : Int32) (w : zV) (h : fX10_bad x0 x1 x2 x3 v = some (r, w)) : zMet l yX10_bad cX10_bad 4 (Option.some FieldType.boolean) 1 80 0 0 [zr G x0, .int x1, .int x2, .int x3] G v (some (.int r)) w := by
  refine zM_of (own := RX10) (by decide) rfl (Nat.le_of_ble_eq_true rfl) (fun x hl F hr hk hcs => ?_)
  subst hl
  refine z_ls [(0, zr G x0), (1, .int x1), (2, .int x2), (3, .int x3)] [0, 1, 2, 3] rfl ?_
  unfold fX10_bad at h
  refine z_iload_n F dX10_bad_0 rfl 1 rfl ?_
  refine z_if_eq F 26 dX10_bad_1 rfl (fun hc => ?_) (fun hc => ?_)
  · replace h := zif_t hc h
    refine z_aload_n F dX10_bad_26 rfl 0 rfl ?_
    refine zg_10_0 F t0 wF_X10_134 dX10_bad_27 ?_
    refine z_if_eq F 37 dX10_bad_30 rfl (fun hc => ?_) (fun hc => ?_)
    · replace h := zif_t hc h
      refine z_iconst (y := (0 : Int32)) F dX10_bad_37 rfl ?_
      cases h
      exact z_retz F hr hk rfl dX10_bad_38
    · replace h := zif_f hc h
      refine z_iconst (y := (1 : Int32)) F dX10_bad_33 rfl ?_
      refine z_goto F 38 dX10_bad_34 rfl ?_
      cases h
      exact z_retz F hr hk rfl dX10_bad_38
  · replace h := zif_f hc h
    refine z_aload_n F dX10_bad_4 rfl 0 rfl ?_
    refine zg_10_0 F t0 wF_X10_134 dX10_bad_5 ?_
    refine z_if_ne F 26 dX10_bad_8 rfl (fun hc => ?_) (fun hc => ?_)
    · replace h := zif_f hc h
      refine z_aload_n F dX10_bad_26 rfl 0 rfl ?_
      refine zg_10_0 F t0 wF_X10_134 dX10_bad_27 ?_
      refine z_if_eq F 37 dX10_bad_30 rfl (fun hc => ?_) (fun hc => ?_)
      · replace h := zif_t hc h
        refine z_iconst (y := (0 : Int32)) F dX10_bad_37 rfl ?_
        cases h
        exact z_retz F hr hk rfl dX10_bad_38
      · replace h := zif_f hc h
        refine z_iconst (y := (1 : Int32)) F dX10_bad_33 rfl ?_
        refine z_goto F 38 dX10_bad_34 rfl ?_
        cases h
        exact z_retz F hr hk rfl dX10_bad_38
    · replace h := zif_t hc h
      refine z_aload_n F dX10_bad_11 rfl 0 rfl ?_
      refine z_iload_n F dX10_bad_12 rfl 2 rfl ?_
      refine zp_10_0 F t0 wF_X10_134 dX10_bad_13 ?_
      obtain ⟨v_1, ev_1, h⟩ := zlet_ex h
      refine z_heap ev_1 ?_
      refine z_aload_n F dX10_bad_16 rfl 0 rfl ?_
      refine zg_10_10 F t0 wF_X10_17 dX10_bad_17 ?_
      refine z_iload_n F dX10_bad_20 rfl 3 rfl ?_
      refine z_dup2 F dX10_bad_21 rfl rfl ?_
      obtain ⟨hi22, h⟩ := zix_ex h
      refine z_iald F (zt_f tc_10_10 t0) dX10_bad_22 hi22 ?_
      refine z_iconst (y := (1 : Int32)) F dX10_bad_23 rfl ?_
      refine z_iadd F dX10_bad_24 ?_
      obtain ⟨hi25, h⟩ := zix_ex h
      refine z_iast F (zt_f tc_10_10 t0) dX10_bad_25 hi25 ?_
      obtain ⟨v_2, ev_2, h⟩ := zlet_ex h
      refine z_heap ev_2 ?_
      refine z_aload_n F dX10_bad_26 rfl 0 rfl ?_
      refine zg_10_0 F t0 wF_X10_134 dX10_bad_27 ?_
      refine z_if_eq F 37 dX10_bad_30 rfl (fun hc => ?_) (fun hc => ?_)
      · replace h := zif_t hc h
        refine z_iconst (y := (0 : Int32)) F dX10_bad_37 rfl ?_
        cases h
        exact z_retz F hr hk rfl dX10_bad_38
      · replace h := zif_f hc h
        refine z_iconst (y := (1 : Int32)) F dX10_bad_33 rfl ?_
        refine z_goto F 38 dX10_bad_34 rfl ?_
        cases h
        exact z_retz F hr hk rfl dX10_bad_38

theorem dX10_in_0 : decode cX10_in 0 = .ok (.iload_n 0, 1) := by decide +kernel
theorem dX10_in_1 : decode cX10_in 1 = .ok (.iload_n 1, 1) := by decide +kernel
theorem dX10_in_2 : decode cX10_in 2 = .ok (.if_icmp .lt 12, 3) := by decide +kernel
theorem dX10_in_5 : decode cX10_in 5 = .ok (.iload_n 0, 1) := by decide +kernel
theorem dX10_in_6 : decode cX10_in 6 = .ok (.iload_n 2, 1) := by decide +kernel
theorem dX10_in_7 : decode cX10_in 7 = .ok (.if_icmp .gt 7, 3) := by decide +kernel
theorem dX10_in_10 : decode cX10_in 10 = .ok (.iconst 1, 1) := by decide +kernel
theorem dX10_in_11 : decode cX10_in 11 = .ok (.goto 4, 3) := by decide +kernel
theorem dX10_in_14 : decode cX10_in 14 = .ok (.iconst 0, 1) := by decide +kernel
theorem dX10_in_15 : decode cX10_in 15 = .ok (.ireturn, 1) := by decide +kernel
def fX10_in (x0 : Int32) (x1 : Int32) (x2 : Int32) (v : zV) : Option (Int32 × zV) :=
  if x0 < x1 then
    some ((0 : Int32), v)
  else
    if x2 < x0 then
      some ((0 : Int32), v)
    else
      some ((1 : Int32), v)
set_option maxRecDepth 4000 in
theorem kX10_in (l : Launch) (G : zG) (x0 : Int32) (x1 : Int32) (x2 : Int32) (v : zV) (r : Int32) (w : zV) (h : fX10_in x0 x1 x2 v = some (r, w)) : zMet l yX10_in cX10_in 3 (Option.some FieldType.boolean) 1 80 0 0 [.int x0, .int x1, .int x2] G v (some (.int r)) w := by
  refine zM_of (own := RX10) (by decide) rfl (Nat.le_of_ble_eq_true rfl) (fun x hl F hr hk hcs => ?_)
  subst hl
  refine z_ls [(0, .int x0), (1, .int x1), (2, .int x2)] [0, 1, 2] rfl ?_
  unfold fX10_in at h
  refine z_iload_n F dX10_in_0 rfl 0 rfl ?_
  refine z_iload_n F dX10_in_1 rfl 1 rfl ?_
  refine z_icmp_lt F 14 dX10_in_2 rfl (fun hc => ?_) (fun hc => ?_)
  · replace h := zif_t hc h
    refine z_iconst (y := (0 : Int32)) F dX10_in_14 rfl ?_
    cases h
    exact z_retz F hr hk rfl dX10_in_15
  · replace h := zif_f hc h
    refine z_iload_n F dX10_in_5 rfl 0 rfl ?_
    refine z_iload_n F dX10_in_6 rfl 2 rfl ?_
    refine z_icmp_gt F 14 dX10_in_7 rfl (fun hc => ?_) (fun hc => ?_)
    · replace h := zif_t hc h
      refine z_iconst (y := (0 : Int32)) F dX10_in_14 rfl ?_
      cases h
      exact z_retz F hr hk rfl dX10_in_15
    · replace h := zif_f hc h
      refine z_iconst (y := (1 : Int32)) F dX10_in_10 rfl ?_
      refine z_goto F 15 dX10_in_11 rfl ?_
      cases h
      exact z_retz F hr hk rfl dX10_in_15

theorem dX10_less_0 : decode cX10_less 0 = .ok (.iload_n 0, 1) := by decide +kernel
theorem dX10_less_1 : decode cX10_less 1 = .ok (.iload_n 1, 1) := by decide +kernel
theorem dX10_less_2 : decode cX10_less 2 = .ok (.if_icmp .ge 7, 3) := by decide +kernel
theorem dX10_less_5 : decode cX10_less 5 = .ok (.iload_n 0, 1) := by decide +kernel
theorem dX10_less_6 : decode cX10_less 6 = .ok (.goto 4, 3) := by decide +kernel
theorem dX10_less_9 : decode cX10_less 9 = .ok (.iload_n 1, 1) := by decide +kernel
theorem dX10_less_10 : decode cX10_less 10 = .ok (.ireturn, 1) := by decide +kernel
def fX10_less (x0 : Int32) (x1 : Int32) (v : zV) : Option (Int32 × zV) :=
  if x1 ≤ x0 then
    some (x1, v)
  else
    some (x0, v)
set_option maxRecDepth 4000 in
theorem kX10_less (l : Launch) (G : zG) (x0 : Int32) (x1 : Int32) (v : zV) (r : Int32) (w : zV) (h : fX10_less x0 x1 v = some (r, w)) : zMet l yX10_less cX10_less 2 (Option.some FieldType.int) 1 80 0 0 [.int x0, .int x1] G v (some (.int r)) w := by
  refine zM_of (own := RX10) (by decide) rfl (Nat.le_of_ble_eq_true rfl) (fun x hl F hr hk hcs => ?_)
  subst hl
  refine z_ls [(0, .int x0), (1, .int x1)] [0, 1] rfl ?_
  unfold fX10_less at h
  refine z_iload_n F dX10_less_0 rfl 0 rfl ?_
  refine z_iload_n F dX10_less_1 rfl 1 rfl ?_
  refine z_icmp_ge F 9 dX10_less_2 rfl (fun hc => ?_) (fun hc => ?_)
  · replace h := zif_t hc h
    refine z_iload_n F dX10_less_9 rfl 1 rfl ?_
    cases h
    exact z_reti F hr hk dX10_less_10
  · replace h := zif_f hc h
    refine z_iload_n F dX10_less_5 rfl 0 rfl ?_
    refine z_goto F 10 dX10_less_6 rfl ?_
    cases h
    exact z_reti F hr hk dX10_less_10

theorem dX10_more_0 : decode cX10_more 0 = .ok (.iload_n 0, 1) := by decide +kernel
theorem dX10_more_1 : decode cX10_more 1 = .ok (.iload_n 1, 1) := by decide +kernel
theorem dX10_more_2 : decode cX10_more 2 = .ok (.if_icmp .le 7, 3) := by decide +kernel
theorem dX10_more_5 : decode cX10_more 5 = .ok (.iload_n 0, 1) := by decide +kernel
theorem dX10_more_6 : decode cX10_more 6 = .ok (.goto 4, 3) := by decide +kernel
theorem dX10_more_9 : decode cX10_more 9 = .ok (.iload_n 1, 1) := by decide +kernel
theorem dX10_more_10 : decode cX10_more 10 = .ok (.ireturn, 1) := by decide +kernel
def fX10_more (x0 : Int32) (x1 : Int32) (v : zV) : Option (Int32 × zV) :=
  if x0 ≤ x1 then
    some (x1, v)
  else
    some (x0, v)
set_option maxRecDepth 4000 in
theorem kX10_more (l : Launch) (G : zG) (x0 : Int32) (x1 : Int32) (v : zV) (r : Int32) (w : zV) (h : fX10_more x0 x1 v = some (r, w)) : zMet l yX10_more cX10_more 2 (Option.some FieldType.int) 1 80 0 0 [.int x0, .int x1] G v (some (.int r)) w := by
  refine zM_of (own := RX10) (by decide) rfl (Nat.le_of_ble_eq_true rfl) (fun x hl F hr hk hcs => ?_)
  subst hl
  refine z_ls [(0, .int x0), (1, .int x1)] [0, 1] rfl ?_
  unfold fX10_more at h
  refine z_iload_n F dX10_more_0 rfl 0 rfl ?_
  refine z_iload_n F dX10_more_1 rfl 1 rfl ?_
  refine z_icmp_le F 9 dX10_more_2 rfl (fun hc => ?_) (fun hc => ?_)
  · replace h := zif_t hc h
    refine z_iload_n F dX10_more_9 rfl 1 rfl ?_
    cases h
    exact z_reti F hr hk dX10_more_10
  · replace h := zif_f hc h
    refine z_iload_n F dX10_more_5 rfl 0 rfl ?_
    refine z_goto F 10 dX10_more_6 rfl ?_
    cases h
    exact z_reti F hr hk dX10_more_10

theorem dX10_feed_0 : decode cX10_feed 0 = .ok (.aload_n 0, 1) := by decide +kernel
theorem dX10_feed_1 : decode cX10_feed 1 = .ok (.iconst 0, 1) := by decide +kernel
theorem dX10_feed_2 : decode cX10_feed 2 = .ok (.putfield 134, 3) := by decide +kernel
theorem dX10_feed_5 : decode cX10_feed 5 = .ok (.aload_n 0, 1) := by decide +kernel
theorem dX10_feed_6 : decode cX10_feed 6 = .ok (.getfield 137, 3) := by decide +kernel
theorem dX10_feed_9 : decode cX10_feed 9 = .ok (.bipush 20, 2) := by decide +kernel
theorem dX10_feed_11 : decode cX10_feed 11 = .ok (.iadd, 1) := by decide +kernel
theorem dX10_feed_12 : decode cX10_feed 12 = .ok (.sipush 600, 3) := by decide +kernel
theorem dX10_feed_15 : decode cX10_feed 15 = .ok (.if_icmp .le 5, 3) := by decide +kernel
theorem dX10_feed_18 : decode cX10_feed 18 = .ok (.iconst (-1), 1) := by decide +kernel
theorem dX10_feed_19 : decode cX10_feed 19 = .ok (.ireturn, 1) := by decide +kernel
theorem dX10_feed_20 : decode cX10_feed 20 = .ok (.iconst 0, 1) := by decide +kernel
theorem dX10_feed_21 : decode cX10_feed 21 = .ok (.istore 6, 2) := by decide +kernel
theorem dX10_feed_23 : decode cX10_feed 23 = .ok (.iload 6, 2) := by decide +kernel
theorem dX10_feed_25 : decode cX10_feed 25 = .ok (.bipush 20, 2) := by decide +kernel
theorem dX10_feed_27 : decode cX10_feed 27 = .ok (.if_icmp .ge 93, 3) := by decide +kernel
theorem dX10_feed_30 : decode cX10_feed 30 = .ok (.iload 6, 2) := by decide +kernel
theorem dX10_feed_32 : decode cX10_feed 32 = .ok (.iconst 4, 1) := by decide +kernel
theorem dX10_feed_33 : decode cX10_feed 33 = .ok (.if_icmp .ge 7, 3) := by decide +kernel
theorem dX10_feed_36 : decode cX10_feed 36 = .ok (.iload_n 1, 1) := by decide +kernel
theorem dX10_feed_37 : decode cX10_feed 37 = .ok (.goto 39, 3) := by decide +kernel
theorem dX10_feed_40 : decode cX10_feed 40 = .ok (.iload 6, 2) := by decide +kernel
theorem dX10_feed_42 : decode cX10_feed 42 = .ok (.bipush 8, 2) := by decide +kernel
theorem dX10_feed_44 : decode cX10_feed 44 = .ok (.if_icmp .ge 7, 3) := by decide +kernel
theorem dX10_feed_47 : decode cX10_feed 47 = .ok (.iload_n 2, 1) := by decide +kernel
theorem dX10_feed_48 : decode cX10_feed 48 = .ok (.goto 28, 3) := by decide +kernel
theorem dX10_feed_51 : decode cX10_feed 51 = .ok (.iload 6, 2) := by decide +kernel
theorem dX10_feed_53 : decode cX10_feed 53 = .ok (.bipush 12, 2) := by decide +kernel
theorem dX10_feed_55 : decode cX10_feed 55 = .ok (.if_icmp .ge 7, 3) := by decide +kernel
theorem dX10_feed_58 : decode cX10_feed 58 = .ok (.iload_n 3, 1) := by decide +kernel
theorem dX10_feed_59 : decode cX10_feed 59 = .ok (.goto 17, 3) := by decide +kernel
theorem dX10_feed_62 : decode cX10_feed 62 = .ok (.iload 6, 2) := by decide +kernel
theorem dX10_feed_64 : decode cX10_feed 64 = .ok (.bipush 16, 2) := by decide +kernel
theorem dX10_feed_66 : decode cX10_feed 66 = .ok (.if_icmp .ge 8, 3) := by decide +kernel
theorem dX10_feed_69 : decode cX10_feed 69 = .ok (.iload 4, 2) := by decide +kernel
theorem dX10_feed_71 : decode cX10_feed 71 = .ok (.goto 5, 3) := by decide +kernel
theorem dX10_feed_74 : decode cX10_feed 74 = .ok (.iload 5, 2) := by decide +kernel
theorem dX10_feed_76 : decode cX10_feed 76 = .ok (.istore 7, 2) := by decide +kernel
theorem dX10_feed_78 : decode cX10_feed 78 = .ok (.aload_n 0, 1) := by decide +kernel
theorem dX10_feed_79 : decode cX10_feed 79 = .ok (.getfield 13, 3) := by decide +kernel
theorem dX10_feed_82 : decode cX10_feed 82 = .ok (.aload_n 0, 1) := by decide +kernel
theorem dX10_feed_83 : decode cX10_feed 83 = .ok (.getfield 137, 3) := by decide +kernel
theorem dX10_feed_86 : decode cX10_feed 86 = .ok (.iload 7, 2) := by decide +kernel
theorem dX10_feed_88 : decode cX10_feed 88 = .ok (.bipush 24, 2) := by decide +kernel
theorem dX10_feed_90 : decode cX10_feed 90 = .ok (.bipush 8, 2) := by decide +kernel
theorem dX10_feed_92 : decode cX10_feed 92 = .ok (.iload 6, 2) := by decide +kernel
theorem dX10_feed_94 : decode cX10_feed 94 = .ok (.iconst 4, 1) := by decide +kernel
theorem dX10_feed_95 : decode cX10_feed 95 = .ok (.irem, 1) := by decide +kernel
theorem dX10_feed_96 : decode cX10_feed 96 = .ok (.imul, 1) := by decide +kernel
theorem dX10_feed_97 : decode cX10_feed 97 = .ok (.isub, 1) := by decide +kernel
theorem dX10_feed_98 : decode cX10_feed 98 = .ok (.ishr, 1) := by decide +kernel
theorem dX10_feed_99 : decode cX10_feed 99 = .ok (.sipush 255, 3) := by decide +kernel
theorem dX10_feed_102 : decode cX10_feed 102 = .ok (.iand, 1) := by decide +kernel
theorem dX10_feed_103 : decode cX10_feed 103 = .ok (.iastore, 1) := by decide +kernel
theorem dX10_feed_104 : decode cX10_feed 104 = .ok (.aload_n 0, 1) := by decide +kernel
theorem dX10_feed_105 : decode cX10_feed 105 = .ok (.dup, 1) := by decide +kernel
theorem dX10_feed_106 : decode cX10_feed 106 = .ok (.getfield 137, 3) := by decide +kernel
theorem dX10_feed_109 : decode cX10_feed 109 = .ok (.iconst 1, 1) := by decide +kernel
theorem dX10_feed_110 : decode cX10_feed 110 = .ok (.iadd, 1) := by decide +kernel
theorem dX10_feed_111 : decode cX10_feed 111 = .ok (.putfield 137, 3) := by decide +kernel
theorem dX10_feed_114 : decode cX10_feed 114 = .ok (.iinc 6 1, 3) := by decide +kernel
theorem dX10_feed_117 : decode cX10_feed 117 = .ok (.goto (-94), 3) := by decide +kernel
theorem dX10_feed_120 : decode cX10_feed 120 = .ok (.aload_n 0, 1) := by decide +kernel
theorem dX10_feed_121 : decode cX10_feed 121 = .ok (.getfield 137, 3) := by decide +kernel
theorem dX10_feed_124 : decode cX10_feed 124 = .ok (.ireturn, 1) := by decide +kernel
def fX10_feed_76 (K23 : Nat → Int32 → Int32 → Int32 → Int32 → Int32 → Int32 → zV → Option (Int32 × zV)) (x0 : Nat) (x1 : Int32) (x2 : Int32) (x3 : Int32) (x4 : Int32) (x5 : Int32) (x6 : Int32) (s0 : Int32) (v : zV) : Option (Int32 × zV) :=
  zix (v x0 1) (zlen (zrf x0 9)) <|
  zlet (zup v (zrf x0 9) (v x0 1).toNatClampNeg ((s0 >>> (((24 : Int32) - ((8 : Int32) * (x6 - x6 / (4 : Int32) * (4 : Int32)))) &&& 31)) &&& (255 : Int32))) fun v_1 =>
  zlet (zup v_1 x0 1 ((v_1 x0 1) + (1 : Int32))) fun v_2 =>
  K23 x0 x1 x2 x3 x4 x5 (x6 + (1 : Int32)) v_2
set_option maxRecDepth 4000 in
theorem jX10_feed_76 (x : zCx) (G : zG) (F : zF x G cX10_feed 8 RX10 1 80) (hr : x.2.2.2.2.2.2.2.2.1.sig.returnType = (Option.some FieldType.int)) (hk : x.2.2.2.2.2.2.2.2.1.locks = false) (r : Int32) (w : zV) (K23 : Nat → Int32 → Int32 → Int32 → Int32 → Int32 → Int32 → zV → Option (Int32 × zV)) (hK23 : ∀ (x0 : Nat) (t0 : zty G x0 1 10) (x1 : Int32) (x2 : Int32) (x3 : Int32) (x4 : Int32) (x5 : Int32) (x6 : Int32) (v : zV), K23 x0 x1 x2 x3 x4 x5 x6 v = some (r, w) → zJ x G 8 (zQ x G (some (.int r)) w 0 0) 0 0 23 [(0, zr G x0), (1, .int x1), (2, .int x2), (3, .int x3), (4, .int x4), (5, .int x5), (6, .int x6)] [] v) : ∀ (x0 : Nat) (t0 : zty G x0 1 10) (x1 : Int32) (x2 : Int32) (x3 : Int32) (x4 : Int32) (x5 : Int32) (x6 : Int32) (s0 : Int32) (v : zV), fX10_feed_76 K23 x0 x1 x2 x3 x4 x5 x6 s0 v = some (r, w) → zJ x G 8 (zQ x G (some (.int r)) w 0 0) 0 0 76 [(0, zr G x0), (1, .int x1), (2, .int x2), (3, .int x3), (4, .int x4), (5, .int x5), (6, .int x6)] [.int s0] v := by
  intro x0 t0 x1 x2 x3 x4 x5 x6 s0 v h
  unfold fX10_feed_76 at h
  refine z_istore (n := 0) F [(7, .int s0), (0, zr G x0), (1, .int x1), (2, .int x2), (3, .int x3), (4, .int x4), (5, .int x5), (6, .int x6)] dX10_feed_76 (Nat.le_of_ble_eq_true rfl) rfl ?_
  refine z_aload_n F dX10_feed_78 rfl 1 rfl ?_
  refine zg_10_9 F t0 wF_X10_13 dX10_feed_79 ?_
  refine z_aload_n F dX10_feed_82 rfl 1 rfl ?_
  refine zg_10_1 F t0 wF_X10_137 dX10_feed_83 ?_
  refine z_iload F dX10_feed_86 0 rfl ?_
  refine z_bipush (y := (24 : Int32)) F dX10_feed_88 rfl ?_
  refine z_bipush (y := (8 : Int32)) F dX10_feed_90 rfl ?_
  refine z_iload F dX10_feed_92 7 rfl ?_
  refine z_iconst (y := (4 : Int32)) F dX10_feed_94 rfl ?_
  refine z_irem F dX10_feed_95 (by decide) ?_
  refine z_imul F dX10_feed_96 ?_
  refine z_isub F dX10_feed_97 ?_
  refine z_ishr F dX10_feed_98 ?_
  refine z_sipush (y := (255 : Int32)) F dX10_feed_99 rfl ?_
  refine z_iand F dX10_feed_102 ?_
  obtain ⟨hi103, h⟩ := zix_ex h
  refine z_iast F (zt_f tc_10_9 t0) dX10_feed_103 hi103 ?_
  obtain ⟨v_1, ev_1, h⟩ := zlet_ex h
  refine z_heap ev_1 ?_
  refine z_aload_n F dX10_feed_104 rfl 1 rfl ?_
  refine z_dup F dX10_feed_105 rfl ?_
  refine zg_10_1 F t0 wF_X10_137 dX10_feed_106 ?_
  refine z_iconst (y := (1 : Int32)) F dX10_feed_109 rfl ?_
  refine z_iadd F dX10_feed_110 ?_
  refine zp_10_1 F t0 wF_X10_137 dX10_feed_111 ?_
  obtain ⟨v_2, ev_2, h⟩ := zlet_ex h
  refine z_heap ev_2 ?_
  refine z_iinc F [(6, .int (x6 + (1 : Int32))), (7, .int s0), (0, zr G x0), (1, .int x1), (2, .int x2), (3, .int x3), (4, .int x4), (5, .int x5)] dX10_feed_114 7 rfl rfl (Nat.le_of_ble_eq_true rfl) rfl ?_
  refine z_goto F 23 dX10_feed_117 rfl ?_
  refine z_ls [(0, zr G x0), (1, .int x1), (2, .int x2), (3, .int x3), (4, .int x4), (5, .int x5), (6, .int (x6 + (1 : Int32)))] [2, 3, 4, 5, 6, 7, 0] rfl ?_
  exact hK23 x0 t0 x1 x2 x3 x4 x5 (x6 + (1 : Int32)) v_2 h

def fX10_feed_23  : Nat → Nat → Int32 → Int32 → Int32 → Int32 → Int32 → Int32 → zV → Option (Int32 × zV)
  | 0 => fun _ _ _ _ _ _ _ _ => none
  | n + 1 => fun x0 x1 x2 x3 x4 x5 x6 v =>
    if (20 : Int32) ≤ x6 then
      some (v x0 1, v)
    else
      if (4 : Int32) ≤ x6 then
        if (8 : Int32) ≤ x6 then
          if (12 : Int32) ≤ x6 then
            if (16 : Int32) ≤ x6 then
              fX10_feed_76 (fX10_feed_23 n) x0 x1 x2 x3 x4 x5 x6 x5 v
            else
              fX10_feed_76 (fX10_feed_23 n) x0 x1 x2 x3 x4 x5 x6 x4 v
          else
            fX10_feed_76 (fX10_feed_23 n) x0 x1 x2 x3 x4 x5 x6 x3 v
        else
          fX10_feed_76 (fX10_feed_23 n) x0 x1 x2 x3 x4 x5 x6 x2 v
      else
        fX10_feed_76 (fX10_feed_23 n) x0 x1 x2 x3 x4 x5 x6 x1 v
set_option maxRecDepth 4000 in
theorem jX10_feed_23 (x : zCx) (G : zG) (F : zF x G cX10_feed 8 RX10 1 80) (hr : x.2.2.2.2.2.2.2.2.1.sig.returnType = (Option.some FieldType.int)) (hk : x.2.2.2.2.2.2.2.2.1.locks = false) (r : Int32) (w : zV)  : ∀ (n : Nat) (x0 : Nat) (t0 : zty G x0 1 10) (x1 : Int32) (x2 : Int32) (x3 : Int32) (x4 : Int32) (x5 : Int32) (x6 : Int32) (v : zV), fX10_feed_23 n x0 x1 x2 x3 x4 x5 x6 v = some (r, w) → zJ x G 8 (zQ x G (some (.int r)) w 0 0) 0 0 23 [(0, zr G x0), (1, .int x1), (2, .int x2), (3, .int x3), (4, .int x4), (5, .int x5), (6, .int x6)] [] v := by
  intro n
  induction n with
  | zero => intro x0 t0 x1 x2 x3 x4 x5 x6 v h; exact absurd h (by intro q; cases q)
  | succ n ih =>
    intro x0 t0 x1 x2 x3 x4 x5 x6 v h
    rw [fX10_feed_23] at h
    dsimp only at h
    refine z_iload F dX10_feed_23 6 rfl ?_
    refine z_bipush (y := (20 : Int32)) F dX10_feed_25 rfl ?_
    refine z_icmp_ge F 120 dX10_feed_27 rfl (fun hc => ?_) (fun hc => ?_)
    · replace h := zif_t hc h
      refine z_aload_n F dX10_feed_120 rfl 0 rfl ?_
      refine zg_10_1 F t0 wF_X10_137 dX10_feed_121 ?_
      cases h
      exact z_reti F hr hk dX10_feed_124
    · replace h := zif_f hc h
      refine z_iload F dX10_feed_30 6 rfl ?_
      refine z_iconst (y := (4 : Int32)) F dX10_feed_32 rfl ?_
      refine z_icmp_ge F 40 dX10_feed_33 rfl (fun hc => ?_) (fun hc => ?_)
      · replace h := zif_t hc h
        refine z_iload F dX10_feed_40 6 rfl ?_
        refine z_bipush (y := (8 : Int32)) F dX10_feed_42 rfl ?_
        refine z_icmp_ge F 51 dX10_feed_44 rfl (fun hc => ?_) (fun hc => ?_)
        · replace h := zif_t hc h
          refine z_iload F dX10_feed_51 6 rfl ?_
          refine z_bipush (y := (12 : Int32)) F dX10_feed_53 rfl ?_
          refine z_icmp_ge F 62 dX10_feed_55 rfl (fun hc => ?_) (fun hc => ?_)
          · replace h := zif_t hc h
            refine z_iload F dX10_feed_62 6 rfl ?_
            refine z_bipush (y := (16 : Int32)) F dX10_feed_64 rfl ?_
            refine z_icmp_ge F 74 dX10_feed_66 rfl (fun hc => ?_) (fun hc => ?_)
            · replace h := zif_t hc h
              refine z_iload F dX10_feed_74 5 rfl ?_
              refine z_ls [(0, zr G x0), (1, .int x1), (2, .int x2), (3, .int x3), (4, .int x4), (5, .int x5), (6, .int x6)] [0, 1, 2, 3, 4, 5, 6] rfl ?_
              exact jX10_feed_76 x G F hr hk r w (fX10_feed_23 n) ih x0 t0 x1 x2 x3 x4 x5 x6 x5 v h
            · replace h := zif_f hc h
              refine z_iload F dX10_feed_69 4 rfl ?_
              refine z_goto F 76 dX10_feed_71 rfl ?_
              refine z_ls [(0, zr G x0), (1, .int x1), (2, .int x2), (3, .int x3), (4, .int x4), (5, .int x5), (6, .int x6)] [0, 1, 2, 3, 4, 5, 6] rfl ?_
              exact jX10_feed_76 x G F hr hk r w (fX10_feed_23 n) ih x0 t0 x1 x2 x3 x4 x5 x6 x4 v h
          · replace h := zif_f hc h
            refine z_iload_n F dX10_feed_58 rfl 3 rfl ?_
            refine z_goto F 76 dX10_feed_59 rfl ?_
            refine z_ls [(0, zr G x0), (1, .int x1), (2, .int x2), (3, .int x3), (4, .int x4), (5, .int x5), (6, .int x6)] [0, 1, 2, 3, 4, 5, 6] rfl ?_
            exact jX10_feed_76 x G F hr hk r w (fX10_feed_23 n) ih x0 t0 x1 x2 x3 x4 x5 x6 x3 v h
        · replace h := zif_f hc h
          refine z_iload_n F dX10_feed_47 rfl 2 rfl ?_
          refine z_goto F 76 dX10_feed_48 rfl ?_
          refine z_ls [(0, zr G x0), (1, .int x1), (2, .int x2), (3, .int x3), (4, .int x4), (5, .int x5), (6, .int x6)] [0, 1, 2, 3, 4, 5, 6] rfl ?_
          exact jX10_feed_76 x G F hr hk r w (fX10_feed_23 n) ih x0 t0 x1 x2 x3 x4 x5 x6 x2 v h
      · replace h := zif_f hc h
        refine z_iload_n F dX10_feed_36 rfl 1 rfl ?_
        refine z_goto F 76 dX10_feed_37 rfl ?_
        refine z_ls [(0, zr G x0), (1, .int x1), (2, .int x2), (3, .int x3), (4, .int x4), (5, .int x5), (6, .int x6)] [0, 1, 2, 3, 4, 5, 6] rfl ?_
        exact jX10_feed_76 x G F hr hk r w (fX10_feed_23 n) ih x0 t0 x1 x2 x3 x4 x5 x6 x1 v h

def fX10_feed (x0 : Nat) (x1 : Int32) (x2 : Int32) (x3 : Int32) (x4 : Int32) (x5 : Int32) (v : zV) : Option (Int32 × zV) :=
  zlet (zup v x0 0 (0 : Int32)) fun v_1 =>
  if ((v_1 x0 1) + (20 : Int32)) ≤ (600 : Int32) then
    fX10_feed_23  zFU x0 x1 x2 x3 x4 x5 (0 : Int32) v_1
  else
    some ((-1 : Int32), v_1)
set_option maxRecDepth 4000 in
theorem kX10_feed (l : Launch) (G : zG) (x0 : Nat) (t0 : zty G x0 1 10) (x1 : Int32) (x2 : Int32) (x3 : Int32) (x4 : Int32) (x5 : Int32) (v : zV) (r : Int32) (w : zV) (h : fX10_feed x0 x1 x2 x3 x4 x5 v = some (r, w)) : zMet l yX10_feed cX10_feed 8 (Option.some FieldType.int) 1 80 0 0 [zr G x0, .int x1, .int x2, .int x3, .int x4, .int x5] G v (some (.int r)) w := by
  refine zM_of (own := RX10) (by decide) rfl (Nat.le_of_ble_eq_true rfl) (fun x hl F hr hk hcs => ?_)
  subst hl
  refine z_ls [(0, zr G x0), (1, .int x1), (2, .int x2), (3, .int x3), (4, .int x4), (5, .int x5)] [0, 1, 2, 3, 4, 5] rfl ?_
  unfold fX10_feed at h
  refine z_aload_n F dX10_feed_0 rfl 0 rfl ?_
  refine z_iconst (y := (0 : Int32)) F dX10_feed_1 rfl ?_
  refine zp_10_0 F t0 wF_X10_134 dX10_feed_2 ?_
  obtain ⟨v_1, ev_1, h⟩ := zlet_ex h
  refine z_heap ev_1 ?_
  refine z_aload_n F dX10_feed_5 rfl 0 rfl ?_
  refine zg_10_1 F t0 wF_X10_137 dX10_feed_6 ?_
  refine z_bipush (y := (20 : Int32)) F dX10_feed_9 rfl ?_
  refine z_iadd F dX10_feed_11 ?_
  refine z_sipush (y := (600 : Int32)) F dX10_feed_12 rfl ?_
  refine z_icmp_le F 20 dX10_feed_15 rfl (fun hc => ?_) (fun hc => ?_)
  · replace h := zif_t hc h
    refine z_iconst (y := (0 : Int32)) F dX10_feed_20 rfl ?_
    refine z_istore (n := 0) F [(6, .int (0 : Int32)), (0, zr G x0), (1, .int x1), (2, .int x2), (3, .int x3), (4, .int x4), (5, .int x5)] dX10_feed_21 (Nat.le_of_ble_eq_true rfl) rfl ?_
    refine z_ls [(0, zr G x0), (1, .int x1), (2, .int x2), (3, .int x3), (4, .int x4), (5, .int x5), (6, .int (0 : Int32))] [1, 2, 3, 4, 5, 6, 0] rfl ?_
    exact jX10_feed_23 x G F hr hk r w   zFU x0 t0 x1 x2 x3 x4 x5 (0 : Int32) v_1 h
  · replace h := zif_f hc h
    refine z_iconst (y := (-1 : Int32)) F dX10_feed_18 rfl ?_
    cases h
    exact z_reti F hr hk dX10_feed_19

theorem dX10_byteAt_0 : decode cX10_byteAt 0 = .ok (.iload_n 1, 1) := by decide +kernel
theorem dX10_byteAt_1 : decode cX10_byteAt 1 = .ok (.aload_n 0, 1) := by decide +kernel
theorem dX10_byteAt_2 : decode cX10_byteAt 2 = .ok (.getfield 140, 3) := by decide +kernel
theorem dX10_byteAt_5 : decode cX10_byteAt 5 = .ok (.if_icmp .lt 7, 3) := by decide +kernel
theorem dX10_byteAt_8 : decode cX10_byteAt 8 = .ok (.iconst (-1), 1) := by decide +kernel
theorem dX10_byteAt_9 : decode cX10_byteAt 9 = .ok (.goto 9, 3) := by decide +kernel
theorem dX10_byteAt_12 : decode cX10_byteAt 12 = .ok (.aload_n 0, 1) := by decide +kernel
theorem dX10_byteAt_13 : decode cX10_byteAt 13 = .ok (.getfield 13, 3) := by decide +kernel
theorem dX10_byteAt_16 : decode cX10_byteAt 16 = .ok (.iload_n 1, 1) := by decide +kernel
theorem dX10_byteAt_17 : decode cX10_byteAt 17 = .ok (.iaload, 1) := by decide +kernel
theorem dX10_byteAt_18 : decode cX10_byteAt 18 = .ok (.ireturn, 1) := by decide +kernel
def fX10_byteAt (x0 : Nat) (x1 : Int32) (v : zV) : Option (Int32 × zV) :=
  if x1 < (v x0 2) then
    zix x1 (zlen (zrf x0 9)) <|
    some (v (zrf x0 9) (x1).toNatClampNeg, v)
  else
    some ((-1 : Int32), v)
set_option maxRecDepth 4000 in
theorem kX10_byteAt (l : Launch) (G : zG) (x0 : Nat) (t0 : zty G x0 1 10) (x1 : Int32) (v : zV) (r : Int32) (w : zV) (h : fX10_byteAt x0 x1 v = some (r, w)) : zMet l yX10_byteAt cX10_byteAt 2 (Option.some FieldType.int) 1 80 0 0 [zr G x0, .int x1] G v (some (.int r)) w := by
  refine zM_of (own := RX10) (by decide) rfl (Nat.le_of_ble_eq_true rfl) (fun x hl F hr hk hcs => ?_)
  subst hl
  refine z_ls [(0, zr G x0), (1, .int x1)] [0, 1] rfl ?_
  unfold fX10_byteAt at h
  refine z_iload_n F dX10_byteAt_0 rfl 1 rfl ?_
  refine z_aload_n F dX10_byteAt_1 rfl 0 rfl ?_
  refine zg_10_2 F t0 wF_X10_140 dX10_byteAt_2 ?_
  refine z_icmp_lt F 12 dX10_byteAt_5 rfl (fun hc => ?_) (fun hc => ?_)
  · replace h := zif_t hc h
    refine z_aload_n F dX10_byteAt_12 rfl 0 rfl ?_
    refine zg_10_9 F t0 wF_X10_13 dX10_byteAt_13 ?_
    refine z_iload_n F dX10_byteAt_16 rfl 1 rfl ?_
    obtain ⟨hi17, h⟩ := zix_ex h
    refine z_iald F (zt_f tc_10_9 t0) dX10_byteAt_17 hi17 ?_
    cases h
    exact z_reti F hr hk dX10_byteAt_18
  · replace h := zif_f hc h
    refine z_iconst (y := (-1 : Int32)) F dX10_byteAt_8 rfl ?_
    refine z_goto F 18 dX10_byteAt_9 rfl ?_
    cases h
    exact z_reti F hr hk dX10_byteAt_18

theorem dX10_blanks_0 : decode cX10_blanks 0 = .ok (.aload_n 0, 1) := by decide +kernel
theorem dX10_blanks_1 : decode cX10_blanks 1 = .ok (.aload_n 0, 1) := by decide +kernel
theorem dX10_blanks_2 : decode cX10_blanks 2 = .ok (.getfield 143, 3) := by decide +kernel
theorem dX10_blanks_5 : decode cX10_blanks 5 = .ok (.invokevirtual 146, 3) := by decide +kernel
theorem dX10_blanks_8 : decode cX10_blanks 8 = .ok (.bipush 32, 2) := by decide +kernel
theorem dX10_blanks_10 : decode cX10_blanks 10 = .ok (.if_icmp .ne 16, 3) := by decide +kernel
theorem dX10_blanks_13 : decode cX10_blanks 13 = .ok (.aload_n 0, 1) := by decide +kernel
theorem dX10_blanks_14 : decode cX10_blanks 14 = .ok (.dup, 1) := by decide +kernel
theorem dX10_blanks_15 : decode cX10_blanks 15 = .ok (.getfield 143, 3) := by decide +kernel
theorem dX10_blanks_18 : decode cX10_blanks 18 = .ok (.iconst 1, 1) := by decide +kernel
theorem dX10_blanks_19 : decode cX10_blanks 19 = .ok (.iadd, 1) := by decide +kernel
theorem dX10_blanks_20 : decode cX10_blanks 20 = .ok (.putfield 143, 3) := by decide +kernel
theorem dX10_blanks_23 : decode cX10_blanks 23 = .ok (.goto (-23), 3) := by decide +kernel
theorem dX10_blanks_26 : decode cX10_blanks 26 = .ok (.return_, 1) := by decide +kernel
def fX10_blanks_0  : Nat → Nat → zV → Option zV
  | 0 => fun _ _ => none
  | n + 1 => fun x0 v =>
    zbind (fX10_byteAt x0 (v x0 4) v) fun r_2 v_1 =>
    if r_2 = (32 : Int32) then
      zlet (zup v_1 x0 4 ((v_1 x0 4) + (1 : Int32))) fun v_3 =>
      (fX10_blanks_0 n) x0 v_3
    else
      some v_1
set_option maxRecDepth 4000 in
theorem jX10_blanks_0 (x : zCx) (G : zG) (F : zF x G cX10_blanks 1 RX10 2 101) (hr : x.2.2.2.2.2.2.2.2.1.sig.returnType = (Option.none : Option FieldType)) (hk : x.2.2.2.2.2.2.2.2.1.locks = false) (w : zV)  : ∀ (n : Nat) (x0 : Nat) (t0 : zty G x0 1 10) (v : zV), fX10_blanks_0 n x0 v = some w → zJ x G 1 (zQ x G none w 0 0) 0 0 0 [(0, zr G x0)] [] v := by
  intro n
  induction n with
  | zero => intro x0 t0 v h; exact absurd h (by intro q; cases q)
  | succ n ih =>
    intro x0 t0 v h
    rw [fX10_blanks_0] at h
    dsimp only at h
    refine z_aload_n F dX10_blanks_0 rfl 0 rfl ?_
    refine z_aload_n F dX10_blanks_1 rfl 0 rfl ?_
    refine zg_10_4 F t0 wF_X10_143 dX10_blanks_2 ?_
    obtain ⟨r_2, v_1, hq5, h⟩ := zbind_ex h
    refine z_callVi F [.int (v x0 4)] [] (kX10_byteAt x.2.1 G x0 t0 (v x0 4) v r_2 v_1 hq5) mI_X10_byteAt (c := 10) rfl t0 wM_X10_146 mi_X10_byteAt sl_X10_byteAt dX10_blanks_5 rfl ⟨Nat.le_of_ble_eq_true rfl, Nat.le_of_ble_eq_true rfl⟩ rfl (Nat.le_of_ble_eq_true rfl) ⟨Nat.zero_le _, Nat.zero_le _⟩ ?_
    refine z_bipush (y := (32 : Int32)) F dX10_blanks_8 rfl ?_
    refine z_icmp_ne F 26 dX10_blanks_10 rfl (fun hc => ?_) (fun hc => ?_)
    · replace h := zif_f hc h
      cases h
      exact z_retv F hr hk dX10_blanks_26
    · replace h := zif_t hc h
      refine z_aload_n F dX10_blanks_13 rfl 0 rfl ?_
      refine z_dup F dX10_blanks_14 rfl ?_
      refine zg_10_4 F t0 wF_X10_143 dX10_blanks_15 ?_
      refine z_iconst (y := (1 : Int32)) F dX10_blanks_18 rfl ?_
      refine z_iadd F dX10_blanks_19 ?_
      refine zp_10_4 F t0 wF_X10_143 dX10_blanks_20 ?_
      obtain ⟨v_3, ev_3, h⟩ := zlet_ex h
      refine z_heap ev_3 ?_
      refine z_goto F 0 dX10_blanks_23 rfl ?_
      refine z_ls [(0, zr G x0)] [0] rfl ?_
      exact ih x0 t0 v_3 h

def fX10_blanks (x0 : Nat) (v : zV) : Option zV :=
  fX10_blanks_0  zFU x0 v
set_option maxRecDepth 4000 in
theorem kX10_blanks (l : Launch) (G : zG) (x0 : Nat) (t0 : zty G x0 1 10) (v : zV) (w : zV) (h : fX10_blanks x0 v = some w) : zMet l yX10_blanks cX10_blanks 1 (Option.none : Option FieldType) 2 101 0 0 [zr G x0] G v none w := by
  refine zM_of (own := RX10) (by decide) rfl (Nat.le_of_ble_eq_true rfl) (fun x hl F hr hk hcs => ?_)
  subst hl
  refine z_ls [(0, zr G x0)] [0] rfl ?_
  unfold fX10_blanks at h
  refine z_ls [(0, zr G x0)] [0] rfl ?_
  exact jX10_blanks_0 x G F hr hk w   zFU x0 t0 v h

theorem dX10_wrong_0 : decode cX10_wrong 0 = .ok (.aload_n 0, 1) := by decide +kernel
theorem dX10_wrong_1 : decode cX10_wrong 1 = .ok (.getfield 150, 3) := by decide +kernel
theorem dX10_wrong_4 : decode cX10_wrong 4 = .ok (.ifCond .ne 13, 3) := by decide +kernel
theorem dX10_wrong_7 : decode cX10_wrong 7 = .ok (.aload_n 0, 1) := by decide +kernel
theorem dX10_wrong_8 : decode cX10_wrong 8 = .ok (.iload_n 1, 1) := by decide +kernel
theorem dX10_wrong_9 : decode cX10_wrong 9 = .ok (.putfield 150, 3) := by decide +kernel
theorem dX10_wrong_12 : decode cX10_wrong 12 = .ok (.aload_n 0, 1) := by decide +kernel
theorem dX10_wrong_13 : decode cX10_wrong 13 = .ok (.iload_n 2, 1) := by decide +kernel
theorem dX10_wrong_14 : decode cX10_wrong 14 = .ok (.putfield 153, 3) := by decide +kernel
theorem dX10_wrong_17 : decode cX10_wrong 17 = .ok (.return_, 1) := by decide +kernel
def fX10_wrong (x0 : Nat) (x1 : Int32) (x2 : Int32) (v : zV) : Option zV :=
  if (v x0 5) = (0 : Int32) then
    zlet (zup v x0 5 x1) fun v_1 =>
    zlet (zup v_1 x0 6 x2) fun v_2 =>
    some v_2
  else
    some v
set_option maxRecDepth 4000 in
theorem kX10_wrong (l : Launch) (G : zG) (x0 : Nat) (t0 : zty G x0 1 10) (x1 : Int32) (x2 : Int32) (v : zV) (w : zV) (h : fX10_wrong x0 x1 x2 v = some w) : zMet l yX10_wrong cX10_wrong 3 (Option.none : Option FieldType) 1 80 0 0 [zr G x0, .int x1, .int x2] G v none w := by
  refine zM_of (own := RX10) (by decide) rfl (Nat.le_of_ble_eq_true rfl) (fun x hl F hr hk hcs => ?_)
  subst hl
  refine z_ls [(0, zr G x0), (1, .int x1), (2, .int x2)] [0, 1, 2] rfl ?_
  unfold fX10_wrong at h
  refine z_aload_n F dX10_wrong_0 rfl 0 rfl ?_
  refine zg_10_5 F t0 wF_X10_150 dX10_wrong_1 ?_
  refine z_if_ne F 17 dX10_wrong_4 rfl (fun hc => ?_) (fun hc => ?_)
  · replace h := zif_f hc h
    cases h
    exact z_retv F hr hk dX10_wrong_17
  · replace h := zif_t hc h
    refine z_aload_n F dX10_wrong_7 rfl 0 rfl ?_
    refine z_iload_n F dX10_wrong_8 rfl 1 rfl ?_
    refine zp_10_5 F t0 wF_X10_150 dX10_wrong_9 ?_
    obtain ⟨v_1, ev_1, h⟩ := zlet_ex h
    refine z_heap ev_1 ?_
    refine z_aload_n F dX10_wrong_12 rfl 0 rfl ?_
    refine z_iload_n F dX10_wrong_13 rfl 2 rfl ?_
    refine zp_10_6 F t0 wF_X10_153 dX10_wrong_14 ?_
    obtain ⟨v_2, ev_2, h⟩ := zlet_ex h
    refine z_heap ev_2 ?_
    cases h
    exact z_retv F hr hk dX10_wrong_17

theorem dX10_isDigit_0 : decode cX10_isDigit 0 = .ok (.iload_n 0, 1) := by decide +kernel
theorem dX10_isDigit_1 : decode cX10_isDigit 1 = .ok (.bipush 48, 2) := by decide +kernel
theorem dX10_isDigit_3 : decode cX10_isDigit 3 = .ok (.if_icmp .lt 13, 3) := by decide +kernel
theorem dX10_isDigit_6 : decode cX10_isDigit 6 = .ok (.iload_n 0, 1) := by decide +kernel
theorem dX10_isDigit_7 : decode cX10_isDigit 7 = .ok (.bipush 57, 2) := by decide +kernel
theorem dX10_isDigit_9 : decode cX10_isDigit 9 = .ok (.if_icmp .gt 7, 3) := by decide +kernel
theorem dX10_isDigit_12 : decode cX10_isDigit 12 = .ok (.iconst 1, 1) := by decide +kernel
theorem dX10_isDigit_13 : decode cX10_isDigit 13 = .ok (.goto 4, 3) := by decide +kernel
theorem dX10_isDigit_16 : decode cX10_isDigit 16 = .ok (.iconst 0, 1) := by decide +kernel
theorem dX10_isDigit_17 : decode cX10_isDigit 17 = .ok (.ireturn, 1) := by decide +kernel
def fX10_isDigit (x0 : Int32) (v : zV) : Option (Int32 × zV) :=
  if x0 < (48 : Int32) then
    some ((0 : Int32), v)
  else
    if (57 : Int32) < x0 then
      some ((0 : Int32), v)
    else
      some ((1 : Int32), v)
set_option maxRecDepth 4000 in
theorem kX10_isDigit (l : Launch) (G : zG) (x0 : Int32) (v : zV) (r : Int32) (w : zV) (h : fX10_isDigit x0 v = some (r, w)) : zMet l yX10_isDigit cX10_isDigit 1 (Option.some FieldType.boolean) 1 80 0 0 [.int x0] G v (some (.int r)) w := by
  refine zM_of (own := RX10) (by decide) rfl (Nat.le_of_ble_eq_true rfl) (fun x hl F hr hk hcs => ?_)
  subst hl
  refine z_ls [(0, .int x0)] [0] rfl ?_
  unfold fX10_isDigit at h
  refine z_iload_n F dX10_isDigit_0 rfl 0 rfl ?_
  refine z_bipush (y := (48 : Int32)) F dX10_isDigit_1 rfl ?_
  refine z_icmp_lt F 16 dX10_isDigit_3 rfl (fun hc => ?_) (fun hc => ?_)
  · replace h := zif_t hc h
    refine z_iconst (y := (0 : Int32)) F dX10_isDigit_16 rfl ?_
    cases h
    exact z_retz F hr hk rfl dX10_isDigit_17
  · replace h := zif_f hc h
    refine z_iload_n F dX10_isDigit_6 rfl 0 rfl ?_
    refine z_bipush (y := (57 : Int32)) F dX10_isDigit_7 rfl ?_
    refine z_icmp_gt F 16 dX10_isDigit_9 rfl (fun hc => ?_) (fun hc => ?_)
    · replace h := zif_t hc h
      refine z_iconst (y := (0 : Int32)) F dX10_isDigit_16 rfl ?_
      cases h
      exact z_retz F hr hk rfl dX10_isDigit_17
    · replace h := zif_f hc h
      refine z_iconst (y := (1 : Int32)) F dX10_isDigit_12 rfl ?_
      refine z_goto F 17 dX10_isDigit_13 rfl ?_
      cases h
      exact z_retz F hr hk rfl dX10_isDigit_17

theorem dX10_isSmall_0 : decode cX10_isSmall 0 = .ok (.iload_n 0, 1) := by decide +kernel
theorem dX10_isSmall_1 : decode cX10_isSmall 1 = .ok (.bipush 97, 2) := by decide +kernel
theorem dX10_isSmall_3 : decode cX10_isSmall 3 = .ok (.if_icmp .lt 13, 3) := by decide +kernel
theorem dX10_isSmall_6 : decode cX10_isSmall 6 = .ok (.iload_n 0, 1) := by decide +kernel
theorem dX10_isSmall_7 : decode cX10_isSmall 7 = .ok (.bipush 122, 2) := by decide +kernel
theorem dX10_isSmall_9 : decode cX10_isSmall 9 = .ok (.if_icmp .gt 7, 3) := by decide +kernel
theorem dX10_isSmall_12 : decode cX10_isSmall 12 = .ok (.iconst 1, 1) := by decide +kernel
theorem dX10_isSmall_13 : decode cX10_isSmall 13 = .ok (.goto 4, 3) := by decide +kernel
theorem dX10_isSmall_16 : decode cX10_isSmall 16 = .ok (.iconst 0, 1) := by decide +kernel
theorem dX10_isSmall_17 : decode cX10_isSmall 17 = .ok (.ireturn, 1) := by decide +kernel
def fX10_isSmall (x0 : Int32) (v : zV) : Option (Int32 × zV) :=
  if x0 < (97 : Int32) then
    some ((0 : Int32), v)
  else
    if (122 : Int32) < x0 then
      some ((0 : Int32), v)
    else
      some ((1 : Int32), v)
set_option maxRecDepth 4000 in
theorem kX10_isSmall (l : Launch) (G : zG) (x0 : Int32) (v : zV) (r : Int32) (w : zV) (h : fX10_isSmall x0 v = some (r, w)) : zMet l yX10_isSmall cX10_isSmall 1 (Option.some FieldType.boolean) 1 80 0 0 [.int x0] G v (some (.int r)) w := by
  refine zM_of (own := RX10) (by decide) rfl (Nat.le_of_ble_eq_true rfl) (fun x hl F hr hk hcs => ?_)
  subst hl
  refine z_ls [(0, .int x0)] [0] rfl ?_
  unfold fX10_isSmall at h
  refine z_iload_n F dX10_isSmall_0 rfl 0 rfl ?_
  refine z_bipush (y := (97 : Int32)) F dX10_isSmall_1 rfl ?_
  refine z_icmp_lt F 16 dX10_isSmall_3 rfl (fun hc => ?_) (fun hc => ?_)
  · replace h := zif_t hc h
    refine z_iconst (y := (0 : Int32)) F dX10_isSmall_16 rfl ?_
    cases h
    exact z_retz F hr hk rfl dX10_isSmall_17
  · replace h := zif_f hc h
    refine z_iload_n F dX10_isSmall_6 rfl 0 rfl ?_
    refine z_bipush (y := (122 : Int32)) F dX10_isSmall_7 rfl ?_
    refine z_icmp_gt F 16 dX10_isSmall_9 rfl (fun hc => ?_) (fun hc => ?_)
    · replace h := zif_t hc h
      refine z_iconst (y := (0 : Int32)) F dX10_isSmall_16 rfl ?_
      cases h
      exact z_retz F hr hk rfl dX10_isSmall_17
    · replace h := zif_f hc h
      refine z_iconst (y := (1 : Int32)) F dX10_isSmall_12 rfl ?_
      refine z_goto F 17 dX10_isSmall_13 rfl ?_
      cases h
      exact z_retz F hr hk rfl dX10_isSmall_17

theorem dX10_number_0 : decode cX10_number 0 = .ok (.aload_n 0, 1) := by decide +kernel
theorem dX10_number_1 : decode cX10_number 1 = .ok (.getfield 150, 3) := by decide +kernel
theorem dX10_number_4 : decode cX10_number 4 = .ok (.ifCond .eq 5, 3) := by decide +kernel
theorem dX10_number_7 : decode cX10_number 7 = .ok (.iconst 0, 1) := by decide +kernel
theorem dX10_number_8 : decode cX10_number 8 = .ok (.ireturn, 1) := by decide +kernel
theorem dX10_number_9 : decode cX10_number 9 = .ok (.aload_n 0, 1) := by decide +kernel
theorem dX10_number_10 : decode cX10_number 10 = .ok (.invokevirtual 156, 3) := by decide +kernel
theorem dX10_number_13 : decode cX10_number 13 = .ok (.aload_n 0, 1) := by decide +kernel
theorem dX10_number_14 : decode cX10_number 14 = .ok (.getfield 143, 3) := by decide +kernel
theorem dX10_number_17 : decode cX10_number 17 = .ok (.istore_n 3, 1) := by decide +kernel
theorem dX10_number_18 : decode cX10_number 18 = .ok (.iconst 0, 1) := by decide +kernel
theorem dX10_number_19 : decode cX10_number 19 = .ok (.istore 4, 2) := by decide +kernel
theorem dX10_number_21 : decode cX10_number 21 = .ok (.aload_n 0, 1) := by decide +kernel
theorem dX10_number_22 : decode cX10_number 22 = .ok (.aload_n 0, 1) := by decide +kernel
theorem dX10_number_23 : decode cX10_number 23 = .ok (.getfield 143, 3) := by decide +kernel
theorem dX10_number_26 : decode cX10_number 26 = .ok (.invokevirtual 146, 3) := by decide +kernel
theorem dX10_number_29 : decode cX10_number 29 = .ok (.invokestatic 159, 3) := by decide +kernel
theorem dX10_number_32 : decode cX10_number 32 = .ok (.ifCond .ne 12, 3) := by decide +kernel
theorem dX10_number_35 : decode cX10_number 35 = .ok (.aload_n 0, 1) := by decide +kernel
theorem dX10_number_36 : decode cX10_number 36 = .ok (.iconst 1, 1) := by decide +kernel
theorem dX10_number_37 : decode cX10_number 37 = .ok (.aload_n 0, 1) := by decide +kernel
theorem dX10_number_38 : decode cX10_number 38 = .ok (.getfield 143, 3) := by decide +kernel
theorem dX10_number_41 : decode cX10_number 41 = .ok (.invokevirtual 163, 3) := by decide +kernel
theorem dX10_number_44 : decode cX10_number 44 = .ok (.aload_n 0, 1) := by decide +kernel
theorem dX10_number_45 : decode cX10_number 45 = .ok (.aload_n 0, 1) := by decide +kernel
theorem dX10_number_46 : decode cX10_number 46 = .ok (.getfield 143, 3) := by decide +kernel
theorem dX10_number_49 : decode cX10_number 49 = .ok (.invokevirtual 146, 3) := by decide +kernel
theorem dX10_number_52 : decode cX10_number 52 = .ok (.invokestatic 159, 3) := by decide +kernel
theorem dX10_number_55 : decode cX10_number 55 = .ok (.ifCond .eq 51, 3) := by decide +kernel
theorem dX10_number_58 : decode cX10_number 58 = .ok (.bipush 10, 2) := by decide +kernel
theorem dX10_number_60 : decode cX10_number 60 = .ok (.iload 4, 2) := by decide +kernel
theorem dX10_number_62 : decode cX10_number 62 = .ok (.imul, 1) := by decide +kernel
theorem dX10_number_63 : decode cX10_number 63 = .ok (.aload_n 0, 1) := by decide +kernel
theorem dX10_number_64 : decode cX10_number 64 = .ok (.aload_n 0, 1) := by decide +kernel
theorem dX10_number_65 : decode cX10_number 65 = .ok (.getfield 143, 3) := by decide +kernel
theorem dX10_number_68 : decode cX10_number 68 = .ok (.invokevirtual 146, 3) := by decide +kernel
theorem dX10_number_71 : decode cX10_number 71 = .ok (.iadd, 1) := by decide +kernel
theorem dX10_number_72 : decode cX10_number 72 = .ok (.bipush 48, 2) := by decide +kernel
theorem dX10_number_74 : decode cX10_number 74 = .ok (.isub, 1) := by decide +kernel
theorem dX10_number_75 : decode cX10_number 75 = .ok (.istore 4, 2) := by decide +kernel
theorem dX10_number_77 : decode cX10_number 77 = .ok (.iload 4, 2) := by decide +kernel
theorem dX10_number_79 : decode cX10_number 79 = .ok (.ldc 167, 2) := by decide +kernel
theorem dX10_number_81 : decode cX10_number 81 = .ok (.if_icmp .le 8, 3) := by decide +kernel
theorem dX10_number_84 : decode cX10_number 84 = .ok (.ldc 167, 2) := by decide +kernel
theorem dX10_number_86 : decode cX10_number 86 = .ok (.goto 5, 3) := by decide +kernel
theorem dX10_number_89 : decode cX10_number 89 = .ok (.iload 4, 2) := by decide +kernel
theorem dX10_number_91 : decode cX10_number 91 = .ok (.istore 4, 2) := by decide +kernel
theorem dX10_number_93 : decode cX10_number 93 = .ok (.aload_n 0, 1) := by decide +kernel
theorem dX10_number_94 : decode cX10_number 94 = .ok (.dup, 1) := by decide +kernel
theorem dX10_number_95 : decode cX10_number 95 = .ok (.getfield 143, 3) := by decide +kernel
theorem dX10_number_98 : decode cX10_number 98 = .ok (.iconst 1, 1) := by decide +kernel
theorem dX10_number_99 : decode cX10_number 99 = .ok (.iadd, 1) := by decide +kernel
theorem dX10_number_100 : decode cX10_number 100 = .ok (.putfield 143, 3) := by decide +kernel
theorem dX10_number_103 : decode cX10_number 103 = .ok (.goto (-59), 3) := by decide +kernel
theorem dX10_number_106 : decode cX10_number 106 = .ok (.iload 4, 2) := by decide +kernel
theorem dX10_number_108 : decode cX10_number 108 = .ok (.iload_n 1, 1) := by decide +kernel
theorem dX10_number_109 : decode cX10_number 109 = .ok (.iload_n 2, 1) := by decide +kernel
theorem dX10_number_110 : decode cX10_number 110 = .ok (.invokestatic 168, 3) := by decide +kernel
theorem dX10_number_113 : decode cX10_number 113 = .ok (.ifCond .ne 9, 3) := by decide +kernel
theorem dX10_number_116 : decode cX10_number 116 = .ok (.aload_n 0, 1) := by decide +kernel
theorem dX10_number_117 : decode cX10_number 117 = .ok (.iconst 2, 1) := by decide +kernel
theorem dX10_number_118 : decode cX10_number 118 = .ok (.iload_n 3, 1) := by decide +kernel
theorem dX10_number_119 : decode cX10_number 119 = .ok (.invokevirtual 163, 3) := by decide +kernel
theorem dX10_number_122 : decode cX10_number 122 = .ok (.aload_n 0, 1) := by decide +kernel
theorem dX10_number_123 : decode cX10_number 123 = .ok (.getfield 150, 3) := by decide +kernel
theorem dX10_number_126 : decode cX10_number 126 = .ok (.ifCond .ne 8, 3) := by decide +kernel
theorem dX10_number_129 : decode cX10_number 129 = .ok (.iload 4, 2) := by decide +kernel
theorem dX10_number_131 : decode cX10_number 131 = .ok (.goto 4, 3) := by decide +kernel
theorem dX10_number_134 : decode cX10_number 134 = .ok (.iconst 0, 1) := by decide +kernel
theorem dX10_number_135 : decode cX10_number 135 = .ok (.ireturn, 1) := by decide +kernel
def fX10_number_106  (x0 : Nat) (x1 : Int32) (x2 : Int32) (x3 : Int32) (x4 : Int32) (v : zV) : Option (Int32 × zV) :=
  zbind (fX10_in x4 x1 x2 v) fun r_2 v_1 =>
  if r_2 = (0 : Int32) then
    zbindv (fX10_wrong x0 (2 : Int32) x3 v_1) fun v_3 =>
    if (v_3 x0 5) = (0 : Int32) then
      some (x4, v_3)
    else
      some ((0 : Int32), v_3)
  else
    if (v_1 x0 5) = (0 : Int32) then
      some (x4, v_1)
    else
      some ((0 : Int32), v_1)
set_option maxRecDepth 4000 in
theorem jX10_number_106 (x : zCx) (G : zG) (F : zF x G cX10_number 5 RX10 3 121) (hr : x.2.2.2.2.2.2.2.2.1.sig.returnType = (Option.some FieldType.int)) (hk : x.2.2.2.2.2.2.2.2.1.locks = false) (r : Int32) (w : zV)  : ∀ (x0 : Nat) (t0 : zty G x0 1 10) (x1 : Int32) (x2 : Int32) (x3 : Int32) (x4 : Int32) (v : zV), fX10_number_106 x0 x1 x2 x3 x4 v = some (r, w) → zJ x G 5 (zQ x G (some (.int r)) w 0 0) 0 0 106 [(0, zr G x0), (1, .int x1), (2, .int x2), (3, .int x3), (4, .int x4)] [] v := by
  intro x0 t0 x1 x2 x3 x4 v h
  unfold fX10_number_106 at h
  refine z_iload F dX10_number_106 4 rfl ?_
  refine z_iload_n F dX10_number_108 rfl 1 rfl ?_
  refine z_iload_n F dX10_number_109 rfl 2 rfl ?_
  obtain ⟨r_2, v_1, hq110, h⟩ := zbind_ex h
  refine z_callSi F [.int x4, .int x1, .int x2] [] (kX10_in x.2.1 G x4 x1 x2 v r_2 v_1 hq110) mI_X10_in wM_X10_168 ms_X10_in dX10_number_110 rfl ⟨Nat.le_of_ble_eq_true rfl, Nat.le_of_ble_eq_true rfl⟩ rfl (Nat.le_of_ble_eq_true rfl) ⟨Nat.zero_le _, Nat.zero_le _⟩ ?_
  refine z_if_ne F 122 dX10_number_113 rfl (fun hc => ?_) (fun hc => ?_)
  · replace h := zif_f hc h
    refine z_aload_n F dX10_number_122 rfl 0 rfl ?_
    refine zg_10_5 F t0 wF_X10_150 dX10_number_123 ?_
    refine z_if_ne F 134 dX10_number_126 rfl (fun hc => ?_) (fun hc => ?_)
    · replace h := zif_f hc h
      refine z_iconst (y := (0 : Int32)) F dX10_number_134 rfl ?_
      cases h
      exact z_reti F hr hk dX10_number_135
    · replace h := zif_t hc h
      refine z_iload F dX10_number_129 4 rfl ?_
      refine z_goto F 135 dX10_number_131 rfl ?_
      cases h
      exact z_reti F hr hk dX10_number_135
  · replace h := zif_t hc h
    refine z_aload_n F dX10_number_116 rfl 0 rfl ?_
    refine z_iconst (y := (2 : Int32)) F dX10_number_117 rfl ?_
    refine z_iload_n F dX10_number_118 rfl 3 rfl ?_
    obtain ⟨v_3, hq119, h⟩ := zbindv_ex h
    refine z_callVv F [.int (2 : Int32), .int x3] [] (kX10_wrong x.2.1 G x0 t0 (2 : Int32) x3 v_1 v_3 hq119) mI_X10_wrong (c := 10) rfl t0 wM_X10_163 mi_X10_wrong sl_X10_wrong dX10_number_119 rfl ⟨Nat.le_of_ble_eq_true rfl, Nat.le_of_ble_eq_true rfl⟩ rfl (Nat.le_of_ble_eq_true rfl) ⟨Nat.zero_le _, Nat.zero_le _⟩ ?_
    refine z_aload_n F dX10_number_122 rfl 0 rfl ?_
    refine zg_10_5 F t0 wF_X10_150 dX10_number_123 ?_
    refine z_if_ne F 134 dX10_number_126 rfl (fun hc => ?_) (fun hc => ?_)
    · replace h := zif_f hc h
      refine z_iconst (y := (0 : Int32)) F dX10_number_134 rfl ?_
      cases h
      exact z_reti F hr hk dX10_number_135
    · replace h := zif_t hc h
      refine z_iload F dX10_number_129 4 rfl ?_
      refine z_goto F 135 dX10_number_131 rfl ?_
      cases h
      exact z_reti F hr hk dX10_number_135

def fX10_number_44  : Nat → Nat → Int32 → Int32 → Int32 → Int32 → zV → Option (Int32 × zV)
  | 0 => fun _ _ _ _ _ _ => none
  | n + 1 => fun x0 x1 x2 x3 x4 v =>
    zbind (fX10_byteAt x0 (v x0 4) v) fun r_2 v_1 =>
    zbind (fX10_isDigit r_2 v_1) fun r_4 v_3 =>
    if r_4 = (0 : Int32) then
      fX10_number_106  x0 x1 x2 x3 x4 v_3
    else
      zbind (fX10_byteAt x0 (v_3 x0 4) v_3) fun r_6 v_5 =>
      if ((((10 : Int32) * x4) + r_6) - (48 : Int32)) ≤ (100000 : Int32) then
        zlet (zup v_5 x0 4 ((v_5 x0 4) + (1 : Int32))) fun v_7 =>
        (fX10_number_44 n) x0 x1 x2 x3 ((((10 : Int32) * x4) + r_6) - (48 : Int32)) v_7
      else
        zlet (zup v_5 x0 4 ((v_5 x0 4) + (1 : Int32))) fun v_8 =>
        (fX10_number_44 n) x0 x1 x2 x3 (100000 : Int32) v_8
set_option maxRecDepth 4000 in
theorem jX10_number_44 (x : zCx) (G : zG) (F : zF x G cX10_number 5 RX10 3 121) (hr : x.2.2.2.2.2.2.2.2.1.sig.returnType = (Option.some FieldType.int)) (hk : x.2.2.2.2.2.2.2.2.1.locks = false) (r : Int32) (w : zV)  : ∀ (n : Nat) (x0 : Nat) (t0 : zty G x0 1 10) (x1 : Int32) (x2 : Int32) (x3 : Int32) (x4 : Int32) (v : zV), fX10_number_44 n x0 x1 x2 x3 x4 v = some (r, w) → zJ x G 5 (zQ x G (some (.int r)) w 0 0) 0 0 44 [(0, zr G x0), (1, .int x1), (2, .int x2), (3, .int x3), (4, .int x4)] [] v := by
  intro n
  induction n with
  | zero => intro x0 t0 x1 x2 x3 x4 v h; exact absurd h (by intro q; cases q)
  | succ n ih =>
    intro x0 t0 x1 x2 x3 x4 v h
    rw [fX10_number_44] at h
    dsimp only at h
    refine z_aload_n F dX10_number_44 rfl 0 rfl ?_
    refine z_aload_n F dX10_number_45 rfl 0 rfl ?_
    refine zg_10_4 F t0 wF_X10_143 dX10_number_46 ?_
    obtain ⟨r_2, v_1, hq49, h⟩ := zbind_ex h
    refine z_callVi F [.int (v x0 4)] [] (kX10_byteAt x.2.1 G x0 t0 (v x0 4) v r_2 v_1 hq49) mI_X10_byteAt (c := 10) rfl t0 wM_X10_146 mi_X10_byteAt sl_X10_byteAt dX10_number_49 rfl ⟨Nat.le_of_ble_eq_true rfl, Nat.le_of_ble_eq_true rfl⟩ rfl (Nat.le_of_ble_eq_true rfl) ⟨Nat.zero_le _, Nat.zero_le _⟩ ?_
    obtain ⟨r_4, v_3, hq52, h⟩ := zbind_ex h
    refine z_callSi F [.int r_2] [] (kX10_isDigit x.2.1 G r_2 v_1 r_4 v_3 hq52) mI_X10_isDigit wM_X10_159 ms_X10_isDigit dX10_number_52 rfl ⟨Nat.le_of_ble_eq_true rfl, Nat.le_of_ble_eq_true rfl⟩ rfl (Nat.le_of_ble_eq_true rfl) ⟨Nat.zero_le _, Nat.zero_le _⟩ ?_
    refine z_if_eq F 106 dX10_number_55 rfl (fun hc => ?_) (fun hc => ?_)
    · replace h := zif_t hc h
      refine z_ls [(0, zr G x0), (1, .int x1), (2, .int x2), (3, .int x3), (4, .int x4)] [0, 1, 2, 3, 4] rfl ?_
      exact jX10_number_106 x G F hr hk r w   x0 t0 x1 x2 x3 x4 v_3 h
    · replace h := zif_f hc h
      refine z_bipush (y := (10 : Int32)) F dX10_number_58 rfl ?_
      refine z_iload F dX10_number_60 4 rfl ?_
      refine z_imul F dX10_number_62 ?_
      refine z_aload_n F dX10_number_63 rfl 0 rfl ?_
      refine z_aload_n F dX10_number_64 rfl 0 rfl ?_
      refine zg_10_4 F t0 wF_X10_143 dX10_number_65 ?_
      obtain ⟨r_6, v_5, hq68, h⟩ := zbind_ex h
      refine z_callVi F [.int (v_3 x0 4)] [.int ((10 : Int32) * x4)] (kX10_byteAt x.2.1 G x0 t0 (v_3 x0 4) v_3 r_6 v_5 hq68) mI_X10_byteAt (c := 10) rfl t0 wM_X10_146 mi_X10_byteAt sl_X10_byteAt dX10_number_68 rfl ⟨Nat.le_of_ble_eq_true rfl, Nat.le_of_ble_eq_true rfl⟩ rfl (Nat.le_of_ble_eq_true rfl) ⟨Nat.zero_le _, Nat.zero_le _⟩ ?_
      refine z_iadd F dX10_number_71 ?_
      refine z_bipush (y := (48 : Int32)) F dX10_number_72 rfl ?_
      refine z_isub F dX10_number_74 ?_
      refine z_istore (n := 0) F [(4, .int ((((10 : Int32) * x4) + r_6) - (48 : Int32))), (0, zr G x0), (1, .int x1), (2, .int x2), (3, .int x3)] dX10_number_75 (Nat.le_of_ble_eq_true rfl) rfl ?_
      refine z_iload F dX10_number_77 0 rfl ?_
      refine z_ldc (y := (100000 : Int32)) F kC_RX10_167 dX10_number_79 ?_
      refine z_icmp_le F 89 dX10_number_81 rfl (fun hc => ?_) (fun hc => ?_)
      · replace h := zif_t hc h
        refine z_iload F dX10_number_89 0 rfl ?_
        refine z_istore (n := 0) F [(4, .int ((((10 : Int32) * x4) + r_6) - (48 : Int32))), (0, zr G x0), (1, .int x1), (2, .int x2), (3, .int x3)] dX10_number_91 (Nat.le_of_ble_eq_true rfl) rfl ?_
        refine z_aload_n F dX10_number_93 rfl 1 rfl ?_
        refine z_dup F dX10_number_94 rfl ?_
        refine zg_10_4 F t0 wF_X10_143 dX10_number_95 ?_
        refine z_iconst (y := (1 : Int32)) F dX10_number_98 rfl ?_
        refine z_iadd F dX10_number_99 ?_
        refine zp_10_4 F t0 wF_X10_143 dX10_number_100 ?_
        obtain ⟨v_7, ev_7, h⟩ := zlet_ex h
        refine z_heap ev_7 ?_
        refine z_goto F 44 dX10_number_103 rfl ?_
        refine z_ls [(0, zr G x0), (1, .int x1), (2, .int x2), (3, .int x3), (4, .int ((((10 : Int32) * x4) + r_6) - (48 : Int32)))] [1, 2, 3, 4, 0] rfl ?_
        exact ih x0 t0 x1 x2 x3 ((((10 : Int32) * x4) + r_6) - (48 : Int32)) v_7 h
      · replace h := zif_f hc h
        refine z_ldc (y := (100000 : Int32)) F kC_RX10_167 dX10_number_84 ?_
        refine z_goto F 91 dX10_number_86 rfl ?_
        refine z_istore (n := 0) F [(4, .int (100000 : Int32)), (0, zr G x0), (1, .int x1), (2, .int x2), (3, .int x3)] dX10_number_91 (Nat.le_of_ble_eq_true rfl) rfl ?_
        refine z_aload_n F dX10_number_93 rfl 1 rfl ?_
        refine z_dup F dX10_number_94 rfl ?_
        refine zg_10_4 F t0 wF_X10_143 dX10_number_95 ?_
        refine z_iconst (y := (1 : Int32)) F dX10_number_98 rfl ?_
        refine z_iadd F dX10_number_99 ?_
        refine zp_10_4 F t0 wF_X10_143 dX10_number_100 ?_
        obtain ⟨v_8, ev_8, h⟩ := zlet_ex h
        refine z_heap ev_8 ?_
        refine z_goto F 44 dX10_number_103 rfl ?_
        refine z_ls [(0, zr G x0), (1, .int x1), (2, .int x2), (3, .int x3), (4, .int (100000 : Int32))] [1, 2, 3, 4, 0] rfl ?_
        exact ih x0 t0 x1 x2 x3 (100000 : Int32) v_8 h

def fX10_number (x0 : Nat) (x1 : Int32) (x2 : Int32) (v : zV) : Option (Int32 × zV) :=
  if (v x0 5) = (0 : Int32) then
    zbindv (fX10_blanks x0 v) fun v_1 =>
    zbind (fX10_byteAt x0 (v_1 x0 4) v_1) fun r_3 v_2 =>
    zbind (fX10_isDigit r_3 v_2) fun r_5 v_4 =>
    if r_5 = (0 : Int32) then
      zbindv (fX10_wrong x0 (1 : Int32) (v_4 x0 4) v_4) fun v_6 =>
      fX10_number_44  zFU x0 x1 x2 (v_1 x0 4) (0 : Int32) v_6
    else
      fX10_number_44  zFU x0 x1 x2 (v_1 x0 4) (0 : Int32) v_4
  else
    some ((0 : Int32), v)
set_option maxRecDepth 4000 in
theorem kX10_number (l : Launch) (G : zG) (x0 : Nat) (t0 : zty G x0 1 10) (x1 : Int32) (x2 : Int32) (v : zV) (r : Int32) (w : zV) (h : fX10_number x0 x1 x2 v = some (r, w)) : zMet l yX10_number cX10_number 5 (Option.some FieldType.int) 3 121 0 0 [zr G x0, .int x1, .int x2] G v (some (.int r)) w := by
  refine zM_of (own := RX10) (by decide) rfl (Nat.le_of_ble_eq_true rfl) (fun x hl F hr hk hcs => ?_)
  subst hl
  refine z_ls [(0, zr G x0), (1, .int x1), (2, .int x2)] [0, 1, 2] rfl ?_
  unfold fX10_number at h
  refine z_aload_n F dX10_number_0 rfl 0 rfl ?_
  refine zg_10_5 F t0 wF_X10_150 dX10_number_1 ?_
  refine z_if_eq F 9 dX10_number_4 rfl (fun hc => ?_) (fun hc => ?_)
  · replace h := zif_t hc h
    refine z_aload_n F dX10_number_9 rfl 0 rfl ?_
    obtain ⟨v_1, hq10, h⟩ := zbindv_ex h
    refine z_callVv F [] [] (kX10_blanks x.2.1 G x0 t0 v v_1 hq10) mI_X10_blanks (c := 10) rfl t0 wM_X10_156 mi_X10_blanks sl_X10_blanks dX10_number_10 rfl ⟨Nat.le_of_ble_eq_true rfl, Nat.le_of_ble_eq_true rfl⟩ rfl (Nat.le_of_ble_eq_true rfl) ⟨Nat.zero_le _, Nat.zero_le _⟩ ?_
    refine z_aload_n F dX10_number_13 rfl 0 rfl ?_
    refine zg_10_4 F t0 wF_X10_143 dX10_number_14 ?_
    refine z_istore_n F [(3, .int (v_1 x0 4)), (0, zr G x0), (1, .int x1), (2, .int x2)] dX10_number_17 rfl (Nat.le_of_ble_eq_true rfl) rfl ?_
    refine z_iconst (y := (0 : Int32)) F dX10_number_18 rfl ?_
    refine z_istore (n := 0) F [(4, .int (0 : Int32)), (3, .int (v_1 x0 4)), (0, zr G x0), (1, .int x1), (2, .int x2)] dX10_number_19 (Nat.le_of_ble_eq_true rfl) rfl ?_
    refine z_aload_n F dX10_number_21 rfl 2 rfl ?_
    refine z_aload_n F dX10_number_22 rfl 2 rfl ?_
    refine zg_10_4 F t0 wF_X10_143 dX10_number_23 ?_
    obtain ⟨r_3, v_2, hq26, h⟩ := zbind_ex h
    refine z_callVi F [.int (v_1 x0 4)] [] (kX10_byteAt x.2.1 G x0 t0 (v_1 x0 4) v_1 r_3 v_2 hq26) mI_X10_byteAt (c := 10) rfl t0 wM_X10_146 mi_X10_byteAt sl_X10_byteAt dX10_number_26 rfl ⟨Nat.le_of_ble_eq_true rfl, Nat.le_of_ble_eq_true rfl⟩ rfl (Nat.le_of_ble_eq_true rfl) ⟨Nat.zero_le _, Nat.zero_le _⟩ ?_
    obtain ⟨r_5, v_4, hq29, h⟩ := zbind_ex h
    refine z_callSi F [.int r_3] [] (kX10_isDigit x.2.1 G r_3 v_2 r_5 v_4 hq29) mI_X10_isDigit wM_X10_159 ms_X10_isDigit dX10_number_29 rfl ⟨Nat.le_of_ble_eq_true rfl, Nat.le_of_ble_eq_true rfl⟩ rfl (Nat.le_of_ble_eq_true rfl) ⟨Nat.zero_le _, Nat.zero_le _⟩ ?_
    refine z_if_ne F 44 dX10_number_32 rfl (fun hc => ?_) (fun hc => ?_)
    · replace h := zif_f hc h
      refine z_ls [(0, zr G x0), (1, .int x1), (2, .int x2), (3, .int (v_1 x0 4)), (4, .int (0 : Int32))] [2, 3, 4, 1, 0] rfl ?_
      exact jX10_number_44 x G F hr hk r w   zFU x0 t0 x1 x2 (v_1 x0 4) (0 : Int32) v_4 h
    · replace h := zif_t hc h
      refine z_aload_n F dX10_number_35 rfl 2 rfl ?_
      refine z_iconst (y := (1 : Int32)) F dX10_number_36 rfl ?_
      refine z_aload_n F dX10_number_37 rfl 2 rfl ?_
      refine zg_10_4 F t0 wF_X10_143 dX10_number_38 ?_
      obtain ⟨v_6, hq41, h⟩ := zbindv_ex h
      refine z_callVv F [.int (1 : Int32), .int (v_4 x0 4)] [] (kX10_wrong x.2.1 G x0 t0 (1 : Int32) (v_4 x0 4) v_4 v_6 hq41) mI_X10_wrong (c := 10) rfl t0 wM_X10_163 mi_X10_wrong sl_X10_wrong dX10_number_41 rfl ⟨Nat.le_of_ble_eq_true rfl, Nat.le_of_ble_eq_true rfl⟩ rfl (Nat.le_of_ble_eq_true rfl) ⟨Nat.zero_le _, Nat.zero_le _⟩ ?_
      refine z_ls [(0, zr G x0), (1, .int x1), (2, .int x2), (3, .int (v_1 x0 4)), (4, .int (0 : Int32))] [2, 3, 4, 1, 0] rfl ?_
      exact jX10_number_44 x G F hr hk r w   zFU x0 t0 x1 x2 (v_1 x0 4) (0 : Int32) v_6 h
  · replace h := zif_f hc h
    refine z_iconst (y := (0 : Int32)) F dX10_number_7 rfl ?_
    cases h
    exact z_reti F hr hk dX10_number_8

theorem dX10_wordHere_0 : decode cX10_wordHere 0 = .ok (.aload_n 0, 1) := by decide +kernel
theorem dX10_wordHere_1 : decode cX10_wordHere 1 = .ok (.invokevirtual 156, 3) := by decide +kernel
theorem dX10_wordHere_4 : decode cX10_wordHere 4 = .ok (.lconst 0, 1) := by decide +kernel
theorem dX10_wordHere_5 : decode cX10_wordHere 5 = .ok (.lstore_n 1, 1) := by decide +kernel
theorem dX10_wordHere_6 : decode cX10_wordHere 6 = .ok (.iconst 0, 1) := by decide +kernel
theorem dX10_wordHere_7 : decode cX10_wordHere 7 = .ok (.istore_n 3, 1) := by decide +kernel
theorem dX10_wordHere_8 : decode cX10_wordHere 8 = .ok (.aload_n 0, 1) := by decide +kernel
theorem dX10_wordHere_9 : decode cX10_wordHere 9 = .ok (.aload_n 0, 1) := by decide +kernel
theorem dX10_wordHere_10 : decode cX10_wordHere 10 = .ok (.getfield 143, 3) := by decide +kernel
theorem dX10_wordHere_13 : decode cX10_wordHere 13 = .ok (.iload_n 3, 1) := by decide +kernel
theorem dX10_wordHere_14 : decode cX10_wordHere 14 = .ok (.iadd, 1) := by decide +kernel
theorem dX10_wordHere_15 : decode cX10_wordHere 15 = .ok (.invokevirtual 146, 3) := by decide +kernel
theorem dX10_wordHere_18 : decode cX10_wordHere 18 = .ok (.invokestatic 172, 3) := by decide +kernel
theorem dX10_wordHere_21 : decode cX10_wordHere 21 = .ok (.ifCond .eq 43, 3) := by decide +kernel
theorem dX10_wordHere_24 : decode cX10_wordHere 24 = .ok (.iload_n 3, 1) := by decide +kernel
theorem dX10_wordHere_25 : decode cX10_wordHere 25 = .ok (.bipush 8, 2) := by decide +kernel
theorem dX10_wordHere_27 : decode cX10_wordHere 27 = .ok (.if_icmp .ge 29, 3) := by decide +kernel
theorem dX10_wordHere_30 : decode cX10_wordHere 30 = .ok (.ldc2_w 175, 3) := by decide +kernel
theorem dX10_wordHere_33 : decode cX10_wordHere 33 = .ok (.lload_n 1, 1) := by decide +kernel
theorem dX10_wordHere_34 : decode cX10_wordHere 34 = .ok (.lmul, 1) := by decide +kernel
theorem dX10_wordHere_35 : decode cX10_wordHere 35 = .ok (.aload_n 0, 1) := by decide +kernel
theorem dX10_wordHere_36 : decode cX10_wordHere 36 = .ok (.aload_n 0, 1) := by decide +kernel
theorem dX10_wordHere_37 : decode cX10_wordHere 37 = .ok (.getfield 143, 3) := by decide +kernel
theorem dX10_wordHere_40 : decode cX10_wordHere 40 = .ok (.iload_n 3, 1) := by decide +kernel
theorem dX10_wordHere_41 : decode cX10_wordHere 41 = .ok (.iadd, 1) := by decide +kernel
theorem dX10_wordHere_42 : decode cX10_wordHere 42 = .ok (.invokevirtual 146, 3) := by decide +kernel
theorem dX10_wordHere_45 : decode cX10_wordHere 45 = .ok (.i2l, 1) := by decide +kernel
theorem dX10_wordHere_46 : decode cX10_wordHere 46 = .ok (.ladd, 1) := by decide +kernel
theorem dX10_wordHere_47 : decode cX10_wordHere 47 = .ok (.ldc2_w 177, 3) := by decide +kernel
theorem dX10_wordHere_50 : decode cX10_wordHere 50 = .ok (.lsub, 1) := by decide +kernel
theorem dX10_wordHere_51 : decode cX10_wordHere 51 = .ok (.lconst 1, 1) := by decide +kernel
theorem dX10_wordHere_52 : decode cX10_wordHere 52 = .ok (.ladd, 1) := by decide +kernel
theorem dX10_wordHere_53 : decode cX10_wordHere 53 = .ok (.goto 4, 3) := by decide +kernel
theorem dX10_wordHere_56 : decode cX10_wordHere 56 = .ok (.lload_n 1, 1) := by decide +kernel
theorem dX10_wordHere_57 : decode cX10_wordHere 57 = .ok (.lstore_n 1, 1) := by decide +kernel
theorem dX10_wordHere_58 : decode cX10_wordHere 58 = .ok (.iinc 3 1, 3) := by decide +kernel
theorem dX10_wordHere_61 : decode cX10_wordHere 61 = .ok (.goto (-53), 3) := by decide +kernel
theorem dX10_wordHere_64 : decode cX10_wordHere 64 = .ok (.iload_n 3, 1) := by decide +kernel
theorem dX10_wordHere_65 : decode cX10_wordHere 65 = .ok (.bipush 8, 2) := by decide +kernel
theorem dX10_wordHere_67 : decode cX10_wordHere 67 = .ok (.if_icmp .le 9, 3) := by decide +kernel
theorem dX10_wordHere_70 : decode cX10_wordHere 70 = .ok (.ldc2_w 179, 3) := by decide +kernel
theorem dX10_wordHere_73 : decode cX10_wordHere 73 = .ok (.goto 4, 3) := by decide +kernel
theorem dX10_wordHere_76 : decode cX10_wordHere 76 = .ok (.lload_n 1, 1) := by decide +kernel
theorem dX10_wordHere_77 : decode cX10_wordHere 77 = .ok (.lreturn, 1) := by decide +kernel
def fX10_wordHere_8  : Nat → Nat → Int64 → Int32 → zV → Option (Int64 × zV)
  | 0 => fun _ _ _ _ => none
  | n + 1 => fun x0 x1 x3 v =>
    zbind (fX10_byteAt x0 ((v x0 4) + x3) v) fun r_2 v_1 =>
    zbind (fX10_isSmall r_2 v_1) fun r_4 v_3 =>
    if r_4 = (0 : Int32) then
      if x3 ≤ (8 : Int32) then
        some (x1, v_3)
      else
        some ((-1 : Int64), v_3)
    else
      if (8 : Int32) ≤ x3 then
        (fX10_wordHere_8 n) x0 x1 (x3 + (1 : Int32)) v_3
      else
        zbind (fX10_byteAt x0 ((v_3 x0 4) + x3) v_3) fun r_6 v_5 =>
        zlet (((((27 : Int64) * x1) + ((r_6).toInt64)) - (97 : Int64)) + (1 : Int64)) fun y_7 =>
        (fX10_wordHere_8 n) x0 y_7 (x3 + (1 : Int32)) v_5
set_option maxRecDepth 4000 in
theorem jX10_wordHere_8 (x : zCx) (G : zG) (F : zF x G cX10_wordHere 4 RX10 3 121) (hr : x.2.2.2.2.2.2.2.2.1.sig.returnType = (Option.some FieldType.long)) (hk : x.2.2.2.2.2.2.2.2.1.locks = false) (r : Int64) (w : zV)  : ∀ (n : Nat) (x0 : Nat) (t0 : zty G x0 1 10) (x1 : Int64) (x3 : Int32) (v : zV), fX10_wordHere_8 n x0 x1 x3 v = some (r, w) → zJ x G 4 (zQ x G (some (.long r)) w 0 0) 0 0 8 [(0, zr G x0), (1, .long x1), (3, .int x3)] [] v := by
  intro n
  induction n with
  | zero => intro x0 t0 x1 x3 v h; exact absurd h (by intro q; cases q)
  | succ n ih =>
    intro x0 t0 x1 x3 v h
    rw [fX10_wordHere_8] at h
    dsimp only at h
    refine z_aload_n F dX10_wordHere_8 rfl 0 rfl ?_
    refine z_aload_n F dX10_wordHere_9 rfl 0 rfl ?_
    refine zg_10_4 F t0 wF_X10_143 dX10_wordHere_10 ?_
    refine z_iload_n F dX10_wordHere_13 rfl 2 rfl ?_
    refine z_iadd F dX10_wordHere_14 ?_
    obtain ⟨r_2, v_1, hq15, h⟩ := zbind_ex h
    refine z_callVi F [.int ((v x0 4) + x3)] [] (kX10_byteAt x.2.1 G x0 t0 ((v x0 4) + x3) v r_2 v_1 hq15) mI_X10_byteAt (c := 10) rfl t0 wM_X10_146 mi_X10_byteAt sl_X10_byteAt dX10_wordHere_15 rfl ⟨Nat.le_of_ble_eq_true rfl, Nat.le_of_ble_eq_true rfl⟩ rfl (Nat.le_of_ble_eq_true rfl) ⟨Nat.zero_le _, Nat.zero_le _⟩ ?_
    obtain ⟨r_4, v_3, hq18, h⟩ := zbind_ex h
    refine z_callSi F [.int r_2] [] (kX10_isSmall x.2.1 G r_2 v_1 r_4 v_3 hq18) mI_X10_isSmall wM_X10_172 ms_X10_isSmall dX10_wordHere_18 rfl ⟨Nat.le_of_ble_eq_true rfl, Nat.le_of_ble_eq_true rfl⟩ rfl (Nat.le_of_ble_eq_true rfl) ⟨Nat.zero_le _, Nat.zero_le _⟩ ?_
    refine z_if_eq F 64 dX10_wordHere_21 rfl (fun hc => ?_) (fun hc => ?_)
    · replace h := zif_t hc h
      refine z_iload_n F dX10_wordHere_64 rfl 2 rfl ?_
      refine z_bipush (y := (8 : Int32)) F dX10_wordHere_65 rfl ?_
      refine z_icmp_le F 76 dX10_wordHere_67 rfl (fun hc => ?_) (fun hc => ?_)
      · replace h := zif_t hc h
        refine z_lload_n F dX10_wordHere_76 rfl 1 rfl ?_
        cases h
        exact z_retl F hr hk dX10_wordHere_77
      · replace h := zif_f hc h
        refine z_ldc2 (y := (-1 : Int64)) F kL_RX10_179 dX10_wordHere_70 ?_
        refine z_goto F 77 dX10_wordHere_73 rfl ?_
        cases h
        exact z_retl F hr hk dX10_wordHere_77
    · replace h := zif_f hc h
      refine z_iload_n F dX10_wordHere_24 rfl 2 rfl ?_
      refine z_bipush (y := (8 : Int32)) F dX10_wordHere_25 rfl ?_
      refine z_icmp_ge F 56 dX10_wordHere_27 rfl (fun hc => ?_) (fun hc => ?_)
      · replace h := zif_t hc h
        refine z_lload_n F dX10_wordHere_56 rfl 1 rfl ?_
        refine z_lstore_n F [(1, .long x1), (0, zr G x0), (3, .int x3)] dX10_wordHere_57 rfl (Nat.le_of_ble_eq_true rfl) rfl ?_
        refine z_iinc F [(3, .int (x3 + (1 : Int32))), (1, .long x1), (0, zr G x0)] dX10_wordHere_58 2 rfl rfl (Nat.le_of_ble_eq_true rfl) rfl ?_
        refine z_goto F 8 dX10_wordHere_61 rfl ?_
        refine z_ls [(0, zr G x0), (1, .long x1), (3, .int (x3 + (1 : Int32)))] [2, 1, 0] rfl ?_
        exact ih x0 t0 x1 (x3 + (1 : Int32)) v_3 h
      · replace h := zif_f hc h
        refine z_ldc2 (y := (27 : Int64)) F kL_RX10_175 dX10_wordHere_30 ?_
        refine z_lload_n F dX10_wordHere_33 rfl 1 rfl ?_
        refine z_lmul F dX10_wordHere_34 ?_
        refine z_aload_n F dX10_wordHere_35 rfl 0 rfl ?_
        refine z_aload_n F dX10_wordHere_36 rfl 0 rfl ?_
        refine zg_10_4 F t0 wF_X10_143 dX10_wordHere_37 ?_
        refine z_iload_n F dX10_wordHere_40 rfl 2 rfl ?_
        refine z_iadd F dX10_wordHere_41 ?_
        obtain ⟨r_6, v_5, hq42, h⟩ := zbind_ex h
        refine z_callVi F [.int ((v_3 x0 4) + x3)] [.long ((27 : Int64) * x1)] (kX10_byteAt x.2.1 G x0 t0 ((v_3 x0 4) + x3) v_3 r_6 v_5 hq42) mI_X10_byteAt (c := 10) rfl t0 wM_X10_146 mi_X10_byteAt sl_X10_byteAt dX10_wordHere_42 rfl ⟨Nat.le_of_ble_eq_true rfl, Nat.le_of_ble_eq_true rfl⟩ rfl (Nat.le_of_ble_eq_true rfl) ⟨Nat.zero_le _, Nat.zero_le _⟩ ?_
        refine z_i2l F dX10_wordHere_45 ?_
        refine z_ladd F dX10_wordHere_46 ?_
        refine z_ldc2 (y := (97 : Int64)) F kL_RX10_177 dX10_wordHere_47 ?_
        refine z_lsub F dX10_wordHere_50 ?_
        refine z_lconst (y := (1 : Int64)) F dX10_wordHere_51 rfl ?_
        refine z_ladd F dX10_wordHere_52 ?_
        refine z_goto F 57 dX10_wordHere_53 rfl ?_
        obtain ⟨y_7, ey_7, h⟩ := zlet_ex h
        refine z_topl ey_7 ?_
        refine z_lstore_n F [(1, .long y_7), (0, zr G x0), (3, .int x3)] dX10_wordHere_57 rfl (Nat.le_of_ble_eq_true rfl) rfl ?_
        refine z_iinc F [(3, .int (x3 + (1 : Int32))), (1, .long y_7), (0, zr G x0)] dX10_wordHere_58 2 rfl rfl (Nat.le_of_ble_eq_true rfl) rfl ?_
        refine z_goto F 8 dX10_wordHere_61 rfl ?_
        refine z_ls [(0, zr G x0), (1, .long y_7), (3, .int (x3 + (1 : Int32)))] [2, 1, 0] rfl ?_
        exact ih x0 t0 y_7 (x3 + (1 : Int32)) v_5 h

def fX10_wordHere (x0 : Nat) (v : zV) : Option (Int64 × zV) :=
  zbindv (fX10_blanks x0 v) fun v_1 =>
  fX10_wordHere_8  zFU x0 (0 : Int64) (0 : Int32) v_1
set_option maxRecDepth 4000 in
theorem kX10_wordHere (l : Launch) (G : zG) (x0 : Nat) (t0 : zty G x0 1 10) (v : zV) (r : Int64) (w : zV) (h : fX10_wordHere x0 v = some (r, w)) : zMet l yX10_wordHere cX10_wordHere 4 (Option.some FieldType.long) 3 121 0 0 [zr G x0] G v (some (.long r)) w := by
  refine zM_of (own := RX10) (by decide) rfl (Nat.le_of_ble_eq_true rfl) (fun x hl F hr hk hcs => ?_)
  subst hl
  refine z_ls [(0, zr G x0)] [0] rfl ?_
  unfold fX10_wordHere at h
  refine z_aload_n F dX10_wordHere_0 rfl 0 rfl ?_
  obtain ⟨v_1, hq1, h⟩ := zbindv_ex h
  refine z_callVv F [] [] (kX10_blanks x.2.1 G x0 t0 v v_1 hq1) mI_X10_blanks (c := 10) rfl t0 wM_X10_156 mi_X10_blanks sl_X10_blanks dX10_wordHere_1 rfl ⟨Nat.le_of_ble_eq_true rfl, Nat.le_of_ble_eq_true rfl⟩ rfl (Nat.le_of_ble_eq_true rfl) ⟨Nat.zero_le _, Nat.zero_le _⟩ ?_
  refine z_lconst (y := (0 : Int64)) F dX10_wordHere_4 rfl ?_
  refine z_lstore_n F [(1, .long (0 : Int64)), (0, zr G x0)] dX10_wordHere_5 rfl (Nat.le_of_ble_eq_true rfl) rfl ?_
  refine z_iconst (y := (0 : Int32)) F dX10_wordHere_6 rfl ?_
  refine z_istore_n F [(3, .int (0 : Int32)), (1, .long (0 : Int64)), (0, zr G x0)] dX10_wordHere_7 rfl (Nat.le_of_ble_eq_true rfl) rfl ?_
  refine z_ls [(0, zr G x0), (1, .long (0 : Int64)), (3, .int (0 : Int32))] [2, 1, 0] rfl ?_
  exact jX10_wordHere_8 x G F hr hk r w   zFU x0 t0 (0 : Int64) (0 : Int32) v_1 h

theorem dX10_eight_0 : decode cX10_eight 0 = .ok (.ldc2_w 175, 3) := by decide +kernel
theorem dX10_eight_3 : decode cX10_eight 3 = .ok (.ldc2_w 175, 3) := by decide +kernel
theorem dX10_eight_6 : decode cX10_eight 6 = .ok (.iload_n 0, 1) := by decide +kernel
theorem dX10_eight_7 : decode cX10_eight 7 = .ok (.i2l, 1) := by decide +kernel
theorem dX10_eight_8 : decode cX10_eight 8 = .ok (.lmul, 1) := by decide +kernel
theorem dX10_eight_9 : decode cX10_eight 9 = .ok (.iload_n 1, 1) := by decide +kernel
theorem dX10_eight_10 : decode cX10_eight 10 = .ok (.i2l, 1) := by decide +kernel
theorem dX10_eight_11 : decode cX10_eight 11 = .ok (.ladd, 1) := by decide +kernel
theorem dX10_eight_12 : decode cX10_eight 12 = .ok (.lmul, 1) := by decide +kernel
theorem dX10_eight_13 : decode cX10_eight 13 = .ok (.iload_n 2, 1) := by decide +kernel
theorem dX10_eight_14 : decode cX10_eight 14 = .ok (.i2l, 1) := by decide +kernel
theorem dX10_eight_15 : decode cX10_eight 15 = .ok (.ladd, 1) := by decide +kernel
theorem dX10_eight_16 : decode cX10_eight 16 = .ok (.lstore 8, 2) := by decide +kernel
theorem dX10_eight_18 : decode cX10_eight 18 = .ok (.iload_n 3, 1) := by decide +kernel
theorem dX10_eight_19 : decode cX10_eight 19 = .ok (.ifCond .ne 8, 3) := by decide +kernel
theorem dX10_eight_22 : decode cX10_eight 22 = .ok (.lload 8, 2) := by decide +kernel
theorem dX10_eight_24 : decode cX10_eight 24 = .ok (.goto 12, 3) := by decide +kernel
theorem dX10_eight_27 : decode cX10_eight 27 = .ok (.ldc2_w 175, 3) := by decide +kernel
theorem dX10_eight_30 : decode cX10_eight 30 = .ok (.lload 8, 2) := by decide +kernel
theorem dX10_eight_32 : decode cX10_eight 32 = .ok (.lmul, 1) := by decide +kernel
theorem dX10_eight_33 : decode cX10_eight 33 = .ok (.iload_n 3, 1) := by decide +kernel
theorem dX10_eight_34 : decode cX10_eight 34 = .ok (.i2l, 1) := by decide +kernel
theorem dX10_eight_35 : decode cX10_eight 35 = .ok (.ladd, 1) := by decide +kernel
theorem dX10_eight_36 : decode cX10_eight 36 = .ok (.lstore 8, 2) := by decide +kernel
theorem dX10_eight_38 : decode cX10_eight 38 = .ok (.iload 4, 2) := by decide +kernel
theorem dX10_eight_40 : decode cX10_eight 40 = .ok (.ifCond .ne 8, 3) := by decide +kernel
theorem dX10_eight_43 : decode cX10_eight 43 = .ok (.lload 8, 2) := by decide +kernel
theorem dX10_eight_45 : decode cX10_eight 45 = .ok (.goto 13, 3) := by decide +kernel
theorem dX10_eight_48 : decode cX10_eight 48 = .ok (.ldc2_w 175, 3) := by decide +kernel
theorem dX10_eight_51 : decode cX10_eight 51 = .ok (.lload 8, 2) := by decide +kernel
theorem dX10_eight_53 : decode cX10_eight 53 = .ok (.lmul, 1) := by decide +kernel
theorem dX10_eight_54 : decode cX10_eight 54 = .ok (.iload 4, 2) := by decide +kernel
theorem dX10_eight_56 : decode cX10_eight 56 = .ok (.i2l, 1) := by decide +kernel
theorem dX10_eight_57 : decode cX10_eight 57 = .ok (.ladd, 1) := by decide +kernel
theorem dX10_eight_58 : decode cX10_eight 58 = .ok (.lstore 8, 2) := by decide +kernel
theorem dX10_eight_60 : decode cX10_eight 60 = .ok (.iload 5, 2) := by decide +kernel
theorem dX10_eight_62 : decode cX10_eight 62 = .ok (.ifCond .ne 8, 3) := by decide +kernel
theorem dX10_eight_65 : decode cX10_eight 65 = .ok (.lload 8, 2) := by decide +kernel
theorem dX10_eight_67 : decode cX10_eight 67 = .ok (.goto 13, 3) := by decide +kernel
theorem dX10_eight_70 : decode cX10_eight 70 = .ok (.ldc2_w 175, 3) := by decide +kernel
theorem dX10_eight_73 : decode cX10_eight 73 = .ok (.lload 8, 2) := by decide +kernel
theorem dX10_eight_75 : decode cX10_eight 75 = .ok (.lmul, 1) := by decide +kernel
theorem dX10_eight_76 : decode cX10_eight 76 = .ok (.iload 5, 2) := by decide +kernel
theorem dX10_eight_78 : decode cX10_eight 78 = .ok (.i2l, 1) := by decide +kernel
theorem dX10_eight_79 : decode cX10_eight 79 = .ok (.ladd, 1) := by decide +kernel
theorem dX10_eight_80 : decode cX10_eight 80 = .ok (.lstore 8, 2) := by decide +kernel
theorem dX10_eight_82 : decode cX10_eight 82 = .ok (.iload 6, 2) := by decide +kernel
theorem dX10_eight_84 : decode cX10_eight 84 = .ok (.ifCond .ne 8, 3) := by decide +kernel
theorem dX10_eight_87 : decode cX10_eight 87 = .ok (.lload 8, 2) := by decide +kernel
theorem dX10_eight_89 : decode cX10_eight 89 = .ok (.goto 13, 3) := by decide +kernel
theorem dX10_eight_92 : decode cX10_eight 92 = .ok (.ldc2_w 175, 3) := by decide +kernel
theorem dX10_eight_95 : decode cX10_eight 95 = .ok (.lload 8, 2) := by decide +kernel
theorem dX10_eight_97 : decode cX10_eight 97 = .ok (.lmul, 1) := by decide +kernel
theorem dX10_eight_98 : decode cX10_eight 98 = .ok (.iload 6, 2) := by decide +kernel
theorem dX10_eight_100 : decode cX10_eight 100 = .ok (.i2l, 1) := by decide +kernel
theorem dX10_eight_101 : decode cX10_eight 101 = .ok (.ladd, 1) := by decide +kernel
theorem dX10_eight_102 : decode cX10_eight 102 = .ok (.lstore 8, 2) := by decide +kernel
theorem dX10_eight_104 : decode cX10_eight 104 = .ok (.iload 7, 2) := by decide +kernel
theorem dX10_eight_106 : decode cX10_eight 106 = .ok (.ifCond .ne 8, 3) := by decide +kernel
theorem dX10_eight_109 : decode cX10_eight 109 = .ok (.lload 8, 2) := by decide +kernel
theorem dX10_eight_111 : decode cX10_eight 111 = .ok (.goto 13, 3) := by decide +kernel
theorem dX10_eight_114 : decode cX10_eight 114 = .ok (.ldc2_w 175, 3) := by decide +kernel
theorem dX10_eight_117 : decode cX10_eight 117 = .ok (.lload 8, 2) := by decide +kernel
theorem dX10_eight_119 : decode cX10_eight 119 = .ok (.lmul, 1) := by decide +kernel
theorem dX10_eight_120 : decode cX10_eight 120 = .ok (.iload 7, 2) := by decide +kernel
theorem dX10_eight_122 : decode cX10_eight 122 = .ok (.i2l, 1) := by decide +kernel
theorem dX10_eight_123 : decode cX10_eight 123 = .ok (.ladd, 1) := by decide +kernel
theorem dX10_eight_124 : decode cX10_eight 124 = .ok (.lreturn, 1) := by decide +kernel
def fX10_eight_80  (x6 : Int32) (x7 : Int32) (s0 : Int64) (v : zV) : Option (Int64 × zV) :=
  if x6 = (0 : Int32) then
    if x7 = (0 : Int32) then
      some (s0, v)
    else
      some (((27 : Int64) * s0) + ((x7).toInt64), v)
  else
    if x7 = (0 : Int32) then
      some (((27 : Int64) * s0) + ((x6).toInt64), v)
    else
      some (((27 : Int64) * (((27 : Int64) * s0) + ((x6).toInt64))) + ((x7).toInt64), v)
set_option maxRecDepth 4000 in
theorem jX10_eight_80 (x : zCx) (G : zG) (F : zF x G cX10_eight 10 RX10 1 80) (hr : x.2.2.2.2.2.2.2.2.1.sig.returnType = (Option.some FieldType.long)) (hk : x.2.2.2.2.2.2.2.2.1.locks = false) (r : Int64) (w : zV)  : ∀ (x6 : Int32) (x7 : Int32) (s0 : Int64) (v : zV), fX10_eight_80 x6 x7 s0 v = some (r, w) → zJ x G 10 (zQ x G (some (.long r)) w 0 0) 0 0 80 [(6, .int x6), (7, .int x7)] [.long s0] v := by
  intro x6 x7 s0 v h
  unfold fX10_eight_80 at h
  refine z_lstore (n := 0) F [(8, .long s0), (6, .int x6), (7, .int x7)] dX10_eight_80 (Nat.le_of_ble_eq_true rfl) rfl ?_
  refine z_iload F dX10_eight_82 1 rfl ?_
  refine z_if_ne F 92 dX10_eight_84 rfl (fun hc => ?_) (fun hc => ?_)
  · replace h := zif_f hc h
    refine z_ldc2 (y := (27 : Int64)) F kL_RX10_175 dX10_eight_92 ?_
    refine z_lload F dX10_eight_95 0 rfl ?_
    refine z_lmul F dX10_eight_97 ?_
    refine z_iload F dX10_eight_98 1 rfl ?_
    refine z_i2l F dX10_eight_100 ?_
    refine z_ladd F dX10_eight_101 ?_
    refine z_lstore (n := 0) F [(8, .long (((27 : Int64) * s0) + ((x6).toInt64))), (6, .int x6), (7, .int x7)] dX10_eight_102 (Nat.le_of_ble_eq_true rfl) rfl ?_
    refine z_iload F dX10_eight_104 2 rfl ?_
    refine z_if_ne F 114 dX10_eight_106 rfl (fun hc => ?_) (fun hc => ?_)
    · replace h := zif_f hc h
      refine z_ldc2 (y := (27 : Int64)) F kL_RX10_175 dX10_eight_114 ?_
      refine z_lload F dX10_eight_117 0 rfl ?_
      refine z_lmul F dX10_eight_119 ?_
      refine z_iload F dX10_eight_120 2 rfl ?_
      refine z_i2l F dX10_eight_122 ?_
      refine z_ladd F dX10_eight_123 ?_
      cases h
      exact z_retl F hr hk dX10_eight_124
    · replace h := zif_t hc h
      refine z_lload F dX10_eight_109 0 rfl ?_
      refine z_goto F 124 dX10_eight_111 rfl ?_
      cases h
      exact z_retl F hr hk dX10_eight_124
  · replace h := zif_t hc h
    refine z_lload F dX10_eight_87 0 rfl ?_
    refine z_goto F 102 dX10_eight_89 rfl ?_
    refine z_lstore (n := 0) F [(8, .long s0), (6, .int x6), (7, .int x7)] dX10_eight_102 (Nat.le_of_ble_eq_true rfl) rfl ?_
    refine z_iload F dX10_eight_104 2 rfl ?_
    refine z_if_ne F 114 dX10_eight_106 rfl (fun hc => ?_) (fun hc => ?_)
    · replace h := zif_f hc h
      refine z_ldc2 (y := (27 : Int64)) F kL_RX10_175 dX10_eight_114 ?_
      refine z_lload F dX10_eight_117 0 rfl ?_
      refine z_lmul F dX10_eight_119 ?_
      refine z_iload F dX10_eight_120 2 rfl ?_
      refine z_i2l F dX10_eight_122 ?_
      refine z_ladd F dX10_eight_123 ?_
      cases h
      exact z_retl F hr hk dX10_eight_124
    · replace h := zif_t hc h
      refine z_lload F dX10_eight_109 0 rfl ?_
      refine z_goto F 124 dX10_eight_111 rfl ?_
      cases h
      exact z_retl F hr hk dX10_eight_124

def fX10_eight_36  (x4 : Int32) (x5 : Int32) (x6 : Int32) (x7 : Int32) (s0 : Int64) (v : zV) : Option (Int64 × zV) :=
  if x4 = (0 : Int32) then
    if x5 = (0 : Int32) then
      fX10_eight_80  x6 x7 s0 v
    else
      fX10_eight_80  x6 x7 (((27 : Int64) * s0) + ((x5).toInt64)) v
  else
    if x5 = (0 : Int32) then
      fX10_eight_80  x6 x7 (((27 : Int64) * s0) + ((x4).toInt64)) v
    else
      fX10_eight_80  x6 x7 (((27 : Int64) * (((27 : Int64) * s0) + ((x4).toInt64))) + ((x5).toInt64)) v
set_option maxRecDepth 4000 in
theorem jX10_eight_36 (x : zCx) (G : zG) (F : zF x G cX10_eight 10 RX10 1 80) (hr : x.2.2.2.2.2.2.2.2.1.sig.returnType = (Option.some FieldType.long)) (hk : x.2.2.2.2.2.2.2.2.1.locks = false) (r : Int64) (w : zV)  : ∀ (x4 : Int32) (x5 : Int32) (x6 : Int32) (x7 : Int32) (s0 : Int64) (v : zV), fX10_eight_36 x4 x5 x6 x7 s0 v = some (r, w) → zJ x G 10 (zQ x G (some (.long r)) w 0 0) 0 0 36 [(4, .int x4), (5, .int x5), (6, .int x6), (7, .int x7)] [.long s0] v := by
  intro x4 x5 x6 x7 s0 v h
  unfold fX10_eight_36 at h
  refine z_lstore (n := 0) F [(8, .long s0), (4, .int x4), (5, .int x5), (6, .int x6), (7, .int x7)] dX10_eight_36 (Nat.le_of_ble_eq_true rfl) rfl ?_
  refine z_iload F dX10_eight_38 1 rfl ?_
  refine z_if_ne F 48 dX10_eight_40 rfl (fun hc => ?_) (fun hc => ?_)
  · replace h := zif_f hc h
    refine z_ldc2 (y := (27 : Int64)) F kL_RX10_175 dX10_eight_48 ?_
    refine z_lload F dX10_eight_51 0 rfl ?_
    refine z_lmul F dX10_eight_53 ?_
    refine z_iload F dX10_eight_54 1 rfl ?_
    refine z_i2l F dX10_eight_56 ?_
    refine z_ladd F dX10_eight_57 ?_
    refine z_lstore (n := 0) F [(8, .long (((27 : Int64) * s0) + ((x4).toInt64))), (4, .int x4), (5, .int x5), (6, .int x6), (7, .int x7)] dX10_eight_58 (Nat.le_of_ble_eq_true rfl) rfl ?_
    refine z_iload F dX10_eight_60 2 rfl ?_
    refine z_if_ne F 70 dX10_eight_62 rfl (fun hc => ?_) (fun hc => ?_)
    · replace h := zif_f hc h
      refine z_ldc2 (y := (27 : Int64)) F kL_RX10_175 dX10_eight_70 ?_
      refine z_lload F dX10_eight_73 0 rfl ?_
      refine z_lmul F dX10_eight_75 ?_
      refine z_iload F dX10_eight_76 2 rfl ?_
      refine z_i2l F dX10_eight_78 ?_
      refine z_ladd F dX10_eight_79 ?_
      refine z_ls [(6, .int x6), (7, .int x7)] [3, 4] rfl ?_
      exact jX10_eight_80 x G F hr hk r w   x6 x7 (((27 : Int64) * (((27 : Int64) * s0) + ((x4).toInt64))) + ((x5).toInt64)) v h
    · replace h := zif_t hc h
      refine z_lload F dX10_eight_65 0 rfl ?_
      refine z_goto F 80 dX10_eight_67 rfl ?_
      refine z_ls [(6, .int x6), (7, .int x7)] [3, 4] rfl ?_
      exact jX10_eight_80 x G F hr hk r w   x6 x7 (((27 : Int64) * s0) + ((x4).toInt64)) v h
  · replace h := zif_t hc h
    refine z_lload F dX10_eight_43 0 rfl ?_
    refine z_goto F 58 dX10_eight_45 rfl ?_
    refine z_lstore (n := 0) F [(8, .long s0), (4, .int x4), (5, .int x5), (6, .int x6), (7, .int x7)] dX10_eight_58 (Nat.le_of_ble_eq_true rfl) rfl ?_
    refine z_iload F dX10_eight_60 2 rfl ?_
    refine z_if_ne F 70 dX10_eight_62 rfl (fun hc => ?_) (fun hc => ?_)
    · replace h := zif_f hc h
      refine z_ldc2 (y := (27 : Int64)) F kL_RX10_175 dX10_eight_70 ?_
      refine z_lload F dX10_eight_73 0 rfl ?_
      refine z_lmul F dX10_eight_75 ?_
      refine z_iload F dX10_eight_76 2 rfl ?_
      refine z_i2l F dX10_eight_78 ?_
      refine z_ladd F dX10_eight_79 ?_
      refine z_ls [(6, .int x6), (7, .int x7)] [3, 4] rfl ?_
      exact jX10_eight_80 x G F hr hk r w   x6 x7 (((27 : Int64) * s0) + ((x5).toInt64)) v h
    · replace h := zif_t hc h
      refine z_lload F dX10_eight_65 0 rfl ?_
      refine z_goto F 80 dX10_eight_67 rfl ?_
      refine z_ls [(6, .int x6), (7, .int x7)] [3, 4] rfl ?_
      exact jX10_eight_80 x G F hr hk r w   x6 x7 s0 v h

def fX10_eight (x0 : Int32) (x1 : Int32) (x2 : Int32) (x3 : Int32) (x4 : Int32) (x5 : Int32) (x6 : Int32) (x7 : Int32) (v : zV) : Option (Int64 × zV) :=
  zlet (((27 : Int64) * (((27 : Int64) * ((x0).toInt64)) + ((x1).toInt64))) + ((x2).toInt64)) fun y_1 =>
  if x3 = (0 : Int32) then
    fX10_eight_36  x4 x5 x6 x7 y_1 v
  else
    fX10_eight_36  x4 x5 x6 x7 (((27 : Int64) * y_1) + ((x3).toInt64)) v
set_option maxRecDepth 4000 in
theorem kX10_eight (l : Launch) (G : zG) (x0 : Int32) (x1 : Int32) (x2 : Int32) (x3 : Int32) (x4 : Int32) (x5 : Int32) (x6 : Int32) (x7 : Int32) (v : zV) (r : Int64) (w : zV) (h : fX10_eight x0 x1 x2 x3 x4 x5 x6 x7 v = some (r, w)) : zMet l yX10_eight cX10_eight 10 (Option.some FieldType.long) 1 80 0 0 [.int x0, .int x1, .int x2, .int x3, .int x4, .int x5, .int x6, .int x7] G v (some (.long r)) w := by
  refine zM_of (own := RX10) (by decide) rfl (Nat.le_of_ble_eq_true rfl) (fun x hl F hr hk hcs => ?_)
  subst hl
  refine z_ls [(0, .int x0), (1, .int x1), (2, .int x2), (3, .int x3), (4, .int x4), (5, .int x5), (6, .int x6), (7, .int x7)] [0, 1, 2, 3, 4, 5, 6, 7] rfl ?_
  unfold fX10_eight at h
  refine z_ldc2 (y := (27 : Int64)) F kL_RX10_175 dX10_eight_0 ?_
  refine z_ldc2 (y := (27 : Int64)) F kL_RX10_175 dX10_eight_3 ?_
  refine z_iload_n F dX10_eight_6 rfl 0 rfl ?_
  refine z_i2l F dX10_eight_7 ?_
  refine z_lmul F dX10_eight_8 ?_
  refine z_iload_n F dX10_eight_9 rfl 1 rfl ?_
  refine z_i2l F dX10_eight_10 ?_
  refine z_ladd F dX10_eight_11 ?_
  refine z_lmul F dX10_eight_12 ?_
  refine z_iload_n F dX10_eight_13 rfl 2 rfl ?_
  refine z_i2l F dX10_eight_14 ?_
  refine z_ladd F dX10_eight_15 ?_
  obtain ⟨y_1, ey_1, h⟩ := zlet_ex h
  refine z_topl ey_1 ?_
  refine z_lstore (n := 0) F [(8, .long y_1), (0, .int x0), (1, .int x1), (2, .int x2), (3, .int x3), (4, .int x4), (5, .int x5), (6, .int x6), (7, .int x7)] dX10_eight_16 (Nat.le_of_ble_eq_true rfl) rfl ?_
  refine z_iload_n F dX10_eight_18 rfl 4 rfl ?_
  refine z_if_ne F 27 dX10_eight_19 rfl (fun hc => ?_) (fun hc => ?_)
  · replace h := zif_f hc h
    refine z_ldc2 (y := (27 : Int64)) F kL_RX10_175 dX10_eight_27 ?_
    refine z_lload F dX10_eight_30 0 rfl ?_
    refine z_lmul F dX10_eight_32 ?_
    refine z_iload_n F dX10_eight_33 rfl 4 rfl ?_
    refine z_i2l F dX10_eight_34 ?_
    refine z_ladd F dX10_eight_35 ?_
    refine z_ls [(4, .int x4), (5, .int x5), (6, .int x6), (7, .int x7)] [5, 6, 7, 8] rfl ?_
    exact jX10_eight_36 x G F hr hk r w   x4 x5 x6 x7 (((27 : Int64) * y_1) + ((x3).toInt64)) v h
  · replace h := zif_t hc h
    refine z_lload F dX10_eight_22 0 rfl ?_
    refine z_goto F 36 dX10_eight_24 rfl ?_
    refine z_ls [(4, .int x4), (5, .int x5), (6, .int x6), (7, .int x7)] [5, 6, 7, 8] rfl ?_
    exact jX10_eight_36 x G F hr hk r w   x4 x5 x6 x7 y_1 v h

theorem dX10_isWord_0 : decode cX10_isWord 0 = .ok (.aload_n 0, 1) := by decide +kernel
theorem dX10_isWord_1 : decode cX10_isWord 1 = .ok (.getfield 150, 3) := by decide +kernel
theorem dX10_isWord_4 : decode cX10_isWord 4 = .ok (.ifCond .ne 31, 3) := by decide +kernel
theorem dX10_isWord_7 : decode cX10_isWord 7 = .ok (.aload_n 0, 1) := by decide +kernel
theorem dX10_isWord_8 : decode cX10_isWord 8 = .ok (.invokevirtual 181, 3) := by decide +kernel
theorem dX10_isWord_11 : decode cX10_isWord 11 = .ok (.iload_n 1, 1) := by decide +kernel
theorem dX10_isWord_12 : decode cX10_isWord 12 = .ok (.iload_n 2, 1) := by decide +kernel
theorem dX10_isWord_13 : decode cX10_isWord 13 = .ok (.iload_n 3, 1) := by decide +kernel
theorem dX10_isWord_14 : decode cX10_isWord 14 = .ok (.iload 4, 2) := by decide +kernel
theorem dX10_isWord_16 : decode cX10_isWord 16 = .ok (.iload 5, 2) := by decide +kernel
theorem dX10_isWord_18 : decode cX10_isWord 18 = .ok (.iload 6, 2) := by decide +kernel
theorem dX10_isWord_20 : decode cX10_isWord 20 = .ok (.iload 7, 2) := by decide +kernel
theorem dX10_isWord_22 : decode cX10_isWord 22 = .ok (.iload 8, 2) := by decide +kernel
theorem dX10_isWord_24 : decode cX10_isWord 24 = .ok (.invokestatic 185, 3) := by decide +kernel
theorem dX10_isWord_27 : decode cX10_isWord 27 = .ok (.lcmp, 1) := by decide +kernel
theorem dX10_isWord_28 : decode cX10_isWord 28 = .ok (.ifCond .ne 7, 3) := by decide +kernel
theorem dX10_isWord_31 : decode cX10_isWord 31 = .ok (.iconst 1, 1) := by decide +kernel
theorem dX10_isWord_32 : decode cX10_isWord 32 = .ok (.goto 4, 3) := by decide +kernel
theorem dX10_isWord_35 : decode cX10_isWord 35 = .ok (.iconst 0, 1) := by decide +kernel
theorem dX10_isWord_36 : decode cX10_isWord 36 = .ok (.ireturn, 1) := by decide +kernel
def fX10_isWord (x0 : Nat) (x1 : Int32) (x2 : Int32) (x3 : Int32) (x4 : Int32) (x5 : Int32) (x6 : Int32) (x7 : Int32) (x8 : Int32) (v : zV) : Option (Int32 × zV) :=
  if (v x0 5) = (0 : Int32) then
    zbind (fX10_wordHere x0 v) fun r_2 v_1 =>
    zbind (fX10_eight x1 x2 x3 x4 x5 x6 x7 x8 v_1) fun r_4 v_3 =>
    if (lg_cmp r_2 r_4) = (0 : Int32) then
      some ((1 : Int32), v_3)
    else
      some ((0 : Int32), v_3)
  else
    some ((0 : Int32), v)
set_option maxRecDepth 4000 in
theorem kX10_isWord (l : Launch) (G : zG) (x0 : Nat) (t0 : zty G x0 1 10) (x1 : Int32) (x2 : Int32) (x3 : Int32) (x4 : Int32) (x5 : Int32) (x6 : Int32) (x7 : Int32) (x8 : Int32) (v : zV) (r : Int32) (w : zV) (h : fX10_isWord x0 x1 x2 x3 x4 x5 x6 x7 x8 v = some (r, w)) : zMet l yX10_isWord cX10_isWord 9 (Option.some FieldType.boolean) 4 144 0 0 [zr G x0, .int x1, .int x2, .int x3, .int x4, .int x5, .int x6, .int x7, .int x8] G v (some (.int r)) w := by
  refine zM_of (own := RX10) (by decide) rfl (Nat.le_of_ble_eq_true rfl) (fun x hl F hr hk hcs => ?_)
  subst hl
  refine z_ls [(0, zr G x0), (1, .int x1), (2, .int x2), (3, .int x3), (4, .int x4), (5, .int x5), (6, .int x6), (7, .int x7), (8, .int x8)] [0, 1, 2, 3, 4, 5, 6, 7, 8] rfl ?_
  unfold fX10_isWord at h
  refine z_aload_n F dX10_isWord_0 rfl 0 rfl ?_
  refine zg_10_5 F t0 wF_X10_150 dX10_isWord_1 ?_
  refine z_if_ne F 35 dX10_isWord_4 rfl (fun hc => ?_) (fun hc => ?_)
  · replace h := zif_f hc h
    refine z_iconst (y := (0 : Int32)) F dX10_isWord_35 rfl ?_
    cases h
    exact z_retz F hr hk rfl dX10_isWord_36
  · replace h := zif_t hc h
    refine z_aload_n F dX10_isWord_7 rfl 0 rfl ?_
    obtain ⟨r_2, v_1, hq8, h⟩ := zbind_ex h
    refine z_callVl F [] [] (kX10_wordHere x.2.1 G x0 t0 v r_2 v_1 hq8) mI_X10_wordHere (c := 10) rfl t0 wM_X10_181 mi_X10_wordHere sl_X10_wordHere dX10_isWord_8 rfl ⟨Nat.le_of_ble_eq_true rfl, Nat.le_of_ble_eq_true rfl⟩ rfl (Nat.le_of_ble_eq_true rfl) ⟨Nat.zero_le _, Nat.zero_le _⟩ ?_
    refine z_iload_n F dX10_isWord_11 rfl 1 rfl ?_
    refine z_iload_n F dX10_isWord_12 rfl 2 rfl ?_
    refine z_iload_n F dX10_isWord_13 rfl 3 rfl ?_
    refine z_iload F dX10_isWord_14 4 rfl ?_
    refine z_iload F dX10_isWord_16 5 rfl ?_
    refine z_iload F dX10_isWord_18 6 rfl ?_
    refine z_iload F dX10_isWord_20 7 rfl ?_
    refine z_iload F dX10_isWord_22 8 rfl ?_
    obtain ⟨r_4, v_3, hq24, h⟩ := zbind_ex h
    refine z_callSl F [.int x1, .int x2, .int x3, .int x4, .int x5, .int x6, .int x7, .int x8] [.long r_2] (kX10_eight x.2.1 G x1 x2 x3 x4 x5 x6 x7 x8 v_1 r_4 v_3 hq24) mI_X10_eight wM_X10_185 ms_X10_eight dX10_isWord_24 rfl ⟨Nat.le_of_ble_eq_true rfl, Nat.le_of_ble_eq_true rfl⟩ rfl (Nat.le_of_ble_eq_true rfl) ⟨Nat.zero_le _, Nat.zero_le _⟩ ?_
    refine z_lcmp F dX10_isWord_27 ?_
    refine z_if_ne F 35 dX10_isWord_28 rfl (fun hc => ?_) (fun hc => ?_)
    · replace h := zif_f hc h
      refine z_iconst (y := (0 : Int32)) F dX10_isWord_35 rfl ?_
      cases h
      exact z_retz F hr hk rfl dX10_isWord_36
    · replace h := zif_t hc h
      refine z_iconst (y := (1 : Int32)) F dX10_isWord_31 rfl ?_
      refine z_goto F 36 dX10_isWord_32 rfl ?_
      cases h
      exact z_retz F hr hk rfl dX10_isWord_36

theorem dX10_skipWord_0 : decode cX10_skipWord 0 = .ok (.aload_n 0, 1) := by decide +kernel
theorem dX10_skipWord_1 : decode cX10_skipWord 1 = .ok (.aload_n 0, 1) := by decide +kernel
theorem dX10_skipWord_2 : decode cX10_skipWord 2 = .ok (.getfield 143, 3) := by decide +kernel
theorem dX10_skipWord_5 : decode cX10_skipWord 5 = .ok (.invokevirtual 146, 3) := by decide +kernel
theorem dX10_skipWord_8 : decode cX10_skipWord 8 = .ok (.invokestatic 172, 3) := by decide +kernel
theorem dX10_skipWord_11 : decode cX10_skipWord 11 = .ok (.ifCond .eq 16, 3) := by decide +kernel
theorem dX10_skipWord_14 : decode cX10_skipWord 14 = .ok (.aload_n 0, 1) := by decide +kernel
theorem dX10_skipWord_15 : decode cX10_skipWord 15 = .ok (.dup, 1) := by decide +kernel
theorem dX10_skipWord_16 : decode cX10_skipWord 16 = .ok (.getfield 143, 3) := by decide +kernel
theorem dX10_skipWord_19 : decode cX10_skipWord 19 = .ok (.iconst 1, 1) := by decide +kernel
theorem dX10_skipWord_20 : decode cX10_skipWord 20 = .ok (.iadd, 1) := by decide +kernel
theorem dX10_skipWord_21 : decode cX10_skipWord 21 = .ok (.putfield 143, 3) := by decide +kernel
theorem dX10_skipWord_24 : decode cX10_skipWord 24 = .ok (.goto (-24), 3) := by decide +kernel
theorem dX10_skipWord_27 : decode cX10_skipWord 27 = .ok (.return_, 1) := by decide +kernel
def fX10_skipWord_0  : Nat → Nat → zV → Option zV
  | 0 => fun _ _ => none
  | n + 1 => fun x0 v =>
    zbind (fX10_byteAt x0 (v x0 4) v) fun r_2 v_1 =>
    zbind (fX10_isSmall r_2 v_1) fun r_4 v_3 =>
    if r_4 = (0 : Int32) then
      some v_3
    else
      zlet (zup v_3 x0 4 ((v_3 x0 4) + (1 : Int32))) fun v_5 =>
      (fX10_skipWord_0 n) x0 v_5
set_option maxRecDepth 4000 in
theorem jX10_skipWord_0 (x : zCx) (G : zG) (F : zF x G cX10_skipWord 1 RX10 2 101) (hr : x.2.2.2.2.2.2.2.2.1.sig.returnType = (Option.none : Option FieldType)) (hk : x.2.2.2.2.2.2.2.2.1.locks = false) (w : zV)  : ∀ (n : Nat) (x0 : Nat) (t0 : zty G x0 1 10) (v : zV), fX10_skipWord_0 n x0 v = some w → zJ x G 1 (zQ x G none w 0 0) 0 0 0 [(0, zr G x0)] [] v := by
  intro n
  induction n with
  | zero => intro x0 t0 v h; exact absurd h (by intro q; cases q)
  | succ n ih =>
    intro x0 t0 v h
    rw [fX10_skipWord_0] at h
    dsimp only at h
    refine z_aload_n F dX10_skipWord_0 rfl 0 rfl ?_
    refine z_aload_n F dX10_skipWord_1 rfl 0 rfl ?_
    refine zg_10_4 F t0 wF_X10_143 dX10_skipWord_2 ?_
    obtain ⟨r_2, v_1, hq5, h⟩ := zbind_ex h
    refine z_callVi F [.int (v x0 4)] [] (kX10_byteAt x.2.1 G x0 t0 (v x0 4) v r_2 v_1 hq5) mI_X10_byteAt (c := 10) rfl t0 wM_X10_146 mi_X10_byteAt sl_X10_byteAt dX10_skipWord_5 rfl ⟨Nat.le_of_ble_eq_true rfl, Nat.le_of_ble_eq_true rfl⟩ rfl (Nat.le_of_ble_eq_true rfl) ⟨Nat.zero_le _, Nat.zero_le _⟩ ?_
    obtain ⟨r_4, v_3, hq8, h⟩ := zbind_ex h
    refine z_callSi F [.int r_2] [] (kX10_isSmall x.2.1 G r_2 v_1 r_4 v_3 hq8) mI_X10_isSmall wM_X10_172 ms_X10_isSmall dX10_skipWord_8 rfl ⟨Nat.le_of_ble_eq_true rfl, Nat.le_of_ble_eq_true rfl⟩ rfl (Nat.le_of_ble_eq_true rfl) ⟨Nat.zero_le _, Nat.zero_le _⟩ ?_
    refine z_if_eq F 27 dX10_skipWord_11 rfl (fun hc => ?_) (fun hc => ?_)
    · replace h := zif_t hc h
      cases h
      exact z_retv F hr hk dX10_skipWord_27
    · replace h := zif_f hc h
      refine z_aload_n F dX10_skipWord_14 rfl 0 rfl ?_
      refine z_dup F dX10_skipWord_15 rfl ?_
      refine zg_10_4 F t0 wF_X10_143 dX10_skipWord_16 ?_
      refine z_iconst (y := (1 : Int32)) F dX10_skipWord_19 rfl ?_
      refine z_iadd F dX10_skipWord_20 ?_
      refine zp_10_4 F t0 wF_X10_143 dX10_skipWord_21 ?_
      obtain ⟨v_5, ev_5, h⟩ := zlet_ex h
      refine z_heap ev_5 ?_
      refine z_goto F 0 dX10_skipWord_24 rfl ?_
      refine z_ls [(0, zr G x0)] [0] rfl ?_
      exact ih x0 t0 v_5 h

def fX10_skipWord (x0 : Nat) (v : zV) : Option zV :=
  fX10_skipWord_0  zFU x0 v
set_option maxRecDepth 4000 in
theorem kX10_skipWord (l : Launch) (G : zG) (x0 : Nat) (t0 : zty G x0 1 10) (v : zV) (w : zV) (h : fX10_skipWord x0 v = some w) : zMet l yX10_skipWord cX10_skipWord 1 (Option.none : Option FieldType) 2 101 0 0 [zr G x0] G v none w := by
  refine zM_of (own := RX10) (by decide) rfl (Nat.le_of_ble_eq_true rfl) (fun x hl F hr hk hcs => ?_)
  subst hl
  refine z_ls [(0, zr G x0)] [0] rfl ?_
  unfold fX10_skipWord at h
  refine z_ls [(0, zr G x0)] [0] rfl ?_
  exact jX10_skipWord_0 x G F hr hk w   zFU x0 t0 v h

theorem dX10_takes_0 : decode cX10_takes 0 = .ok (.aload_n 0, 1) := by decide +kernel
theorem dX10_takes_1 : decode cX10_takes 1 = .ok (.iload_n 1, 1) := by decide +kernel
theorem dX10_takes_2 : decode cX10_takes 2 = .ok (.iload_n 2, 1) := by decide +kernel
theorem dX10_takes_3 : decode cX10_takes 3 = .ok (.iload_n 3, 1) := by decide +kernel
theorem dX10_takes_4 : decode cX10_takes 4 = .ok (.iload 4, 2) := by decide +kernel
theorem dX10_takes_6 : decode cX10_takes 6 = .ok (.iload 5, 2) := by decide +kernel
theorem dX10_takes_8 : decode cX10_takes 8 = .ok (.iload 6, 2) := by decide +kernel
theorem dX10_takes_10 : decode cX10_takes 10 = .ok (.iload 7, 2) := by decide +kernel
theorem dX10_takes_12 : decode cX10_takes 12 = .ok (.iload 8, 2) := by decide +kernel
theorem dX10_takes_14 : decode cX10_takes 14 = .ok (.invokevirtual 189, 3) := by decide +kernel
theorem dX10_takes_17 : decode cX10_takes 17 = .ok (.istore 9, 2) := by decide +kernel
theorem dX10_takes_19 : decode cX10_takes 19 = .ok (.iload 9, 2) := by decide +kernel
theorem dX10_takes_21 : decode cX10_takes 21 = .ok (.ifCond .eq 7, 3) := by decide +kernel
theorem dX10_takes_24 : decode cX10_takes 24 = .ok (.aload_n 0, 1) := by decide +kernel
theorem dX10_takes_25 : decode cX10_takes 25 = .ok (.invokevirtual 193, 3) := by decide +kernel
theorem dX10_takes_28 : decode cX10_takes 28 = .ok (.iload 9, 2) := by decide +kernel
theorem dX10_takes_30 : decode cX10_takes 30 = .ok (.ireturn, 1) := by decide +kernel
def fX10_takes (x0 : Nat) (x1 : Int32) (x2 : Int32) (x3 : Int32) (x4 : Int32) (x5 : Int32) (x6 : Int32) (x7 : Int32) (x8 : Int32) (v : zV) : Option (Int32 × zV) :=
  zbind (fX10_isWord x0 x1 x2 x3 x4 x5 x6 x7 x8 v) fun r_2 v_1 =>
  if r_2 = (0 : Int32) then
    zbl r_2 <|
    some (r_2, v_1)
  else
    zbindv (fX10_skipWord x0 v_1) fun v_3 =>
    zbl r_2 <|
    some (r_2, v_3)
set_option maxRecDepth 4000 in
theorem kX10_takes (l : Launch) (G : zG) (x0 : Nat) (t0 : zty G x0 1 10) (x1 : Int32) (x2 : Int32) (x3 : Int32) (x4 : Int32) (x5 : Int32) (x6 : Int32) (x7 : Int32) (x8 : Int32) (v : zV) (r : Int32) (w : zV) (h : fX10_takes x0 x1 x2 x3 x4 x5 x6 x7 x8 v = some (r, w)) : zMet l yX10_takes cX10_takes 10 (Option.some FieldType.boolean) 5 172 0 0 [zr G x0, .int x1, .int x2, .int x3, .int x4, .int x5, .int x6, .int x7, .int x8] G v (some (.int r)) w := by
  refine zM_of (own := RX10) (by decide) rfl (Nat.le_of_ble_eq_true rfl) (fun x hl F hr hk hcs => ?_)
  subst hl
  refine z_ls [(0, zr G x0), (1, .int x1), (2, .int x2), (3, .int x3), (4, .int x4), (5, .int x5), (6, .int x6), (7, .int x7), (8, .int x8)] [0, 1, 2, 3, 4, 5, 6, 7, 8] rfl ?_
  unfold fX10_takes at h
  refine z_aload_n F dX10_takes_0 rfl 0 rfl ?_
  refine z_iload_n F dX10_takes_1 rfl 1 rfl ?_
  refine z_iload_n F dX10_takes_2 rfl 2 rfl ?_
  refine z_iload_n F dX10_takes_3 rfl 3 rfl ?_
  refine z_iload F dX10_takes_4 4 rfl ?_
  refine z_iload F dX10_takes_6 5 rfl ?_
  refine z_iload F dX10_takes_8 6 rfl ?_
  refine z_iload F dX10_takes_10 7 rfl ?_
  refine z_iload F dX10_takes_12 8 rfl ?_
  obtain ⟨r_2, v_1, hq14, h⟩ := zbind_ex h
  refine z_callVi F [.int x1, .int x2, .int x3, .int x4, .int x5, .int x6, .int x7, .int x8] [] (kX10_isWord x.2.1 G x0 t0 x1 x2 x3 x4 x5 x6 x7 x8 v r_2 v_1 hq14) mI_X10_isWord (c := 10) rfl t0 wM_X10_189 mi_X10_isWord sl_X10_isWord dX10_takes_14 rfl ⟨Nat.le_of_ble_eq_true rfl, Nat.le_of_ble_eq_true rfl⟩ rfl (Nat.le_of_ble_eq_true rfl) ⟨Nat.zero_le _, Nat.zero_le _⟩ ?_
  refine z_istore (n := 0) F [(9, .int r_2), (0, zr G x0), (1, .int x1), (2, .int x2), (3, .int x3), (4, .int x4), (5, .int x5), (6, .int x6), (7, .int x7), (8, .int x8)] dX10_takes_17 (Nat.le_of_ble_eq_true rfl) rfl ?_
  refine z_iload F dX10_takes_19 0 rfl ?_
  refine z_if_eq F 28 dX10_takes_21 rfl (fun hc => ?_) (fun hc => ?_)
  · replace h := zif_t hc h
    refine z_iload F dX10_takes_28 0 rfl ?_
    obtain ⟨hz30, h⟩ := zbl_ex h
    cases h
    exact z_retz F hr hk hz30 dX10_takes_30
  · replace h := zif_f hc h
    refine z_aload_n F dX10_takes_24 rfl 1 rfl ?_
    obtain ⟨v_3, hq25, h⟩ := zbindv_ex h
    refine z_callVv F [] [] (kX10_skipWord x.2.1 G x0 t0 v_1 v_3 hq25) mI_X10_skipWord (c := 10) rfl t0 wM_X10_193 mi_X10_skipWord sl_X10_skipWord dX10_takes_25 rfl ⟨Nat.le_of_ble_eq_true rfl, Nat.le_of_ble_eq_true rfl⟩ rfl (Nat.le_of_ble_eq_true rfl) ⟨Nat.zero_le _, Nat.zero_le _⟩ ?_
    refine z_iload F dX10_takes_28 0 rfl ?_
    obtain ⟨hz30, h⟩ := zbl_ex h
    cases h
    exact z_retz F hr hk hz30 dX10_takes_30

theorem dX10_sign_0 : decode cX10_sign 0 = .ok (.aload_n 0, 1) := by decide +kernel
theorem dX10_sign_1 : decode cX10_sign 1 = .ok (.getfield 150, 3) := by decide +kernel
theorem dX10_sign_4 : decode cX10_sign 4 = .ok (.ifCond .eq 4, 3) := by decide +kernel
theorem dX10_sign_7 : decode cX10_sign 7 = .ok (.return_, 1) := by decide +kernel
theorem dX10_sign_8 : decode cX10_sign 8 = .ok (.aload_n 0, 1) := by decide +kernel
theorem dX10_sign_9 : decode cX10_sign 9 = .ok (.invokevirtual 156, 3) := by decide +kernel
theorem dX10_sign_12 : decode cX10_sign 12 = .ok (.aload_n 0, 1) := by decide +kernel
theorem dX10_sign_13 : decode cX10_sign 13 = .ok (.aload_n 0, 1) := by decide +kernel
theorem dX10_sign_14 : decode cX10_sign 14 = .ok (.getfield 143, 3) := by decide +kernel
theorem dX10_sign_17 : decode cX10_sign 17 = .ok (.invokevirtual 146, 3) := by decide +kernel
theorem dX10_sign_20 : decode cX10_sign 20 = .ok (.iload_n 1, 1) := by decide +kernel
theorem dX10_sign_21 : decode cX10_sign 21 = .ok (.if_icmp .ne 16, 3) := by decide +kernel
theorem dX10_sign_24 : decode cX10_sign 24 = .ok (.aload_n 0, 1) := by decide +kernel
theorem dX10_sign_25 : decode cX10_sign 25 = .ok (.dup, 1) := by decide +kernel
theorem dX10_sign_26 : decode cX10_sign 26 = .ok (.getfield 143, 3) := by decide +kernel
theorem dX10_sign_29 : decode cX10_sign 29 = .ok (.iconst 1, 1) := by decide +kernel
theorem dX10_sign_30 : decode cX10_sign 30 = .ok (.iadd, 1) := by decide +kernel
theorem dX10_sign_31 : decode cX10_sign 31 = .ok (.putfield 143, 3) := by decide +kernel
theorem dX10_sign_34 : decode cX10_sign 34 = .ok (.goto 12, 3) := by decide +kernel
theorem dX10_sign_37 : decode cX10_sign 37 = .ok (.aload_n 0, 1) := by decide +kernel
theorem dX10_sign_38 : decode cX10_sign 38 = .ok (.iconst 1, 1) := by decide +kernel
theorem dX10_sign_39 : decode cX10_sign 39 = .ok (.aload_n 0, 1) := by decide +kernel
theorem dX10_sign_40 : decode cX10_sign 40 = .ok (.getfield 143, 3) := by decide +kernel
theorem dX10_sign_43 : decode cX10_sign 43 = .ok (.invokevirtual 163, 3) := by decide +kernel
theorem dX10_sign_46 : decode cX10_sign 46 = .ok (.return_, 1) := by decide +kernel
def fX10_sign (x0 : Nat) (x1 : Int32) (v : zV) : Option zV :=
  if (v x0 5) = (0 : Int32) then
    zbindv (fX10_blanks x0 v) fun v_1 =>
    zbind (fX10_byteAt x0 (v_1 x0 4) v_1) fun r_3 v_2 =>
    if r_3 = x1 then
      zlet (zup v_2 x0 4 ((v_2 x0 4) + (1 : Int32))) fun v_5 =>
      some v_5
    else
      zbindv (fX10_wrong x0 (1 : Int32) (v_2 x0 4) v_2) fun v_4 =>
      some v_4
  else
    some v
set_option maxRecDepth 4000 in
theorem kX10_sign (l : Launch) (G : zG) (x0 : Nat) (t0 : zty G x0 1 10) (x1 : Int32) (v : zV) (w : zV) (h : fX10_sign x0 x1 v = some w) : zMet l yX10_sign cX10_sign 2 (Option.none : Option FieldType) 3 121 0 0 [zr G x0, .int x1] G v none w := by
  refine zM_of (own := RX10) (by decide) rfl (Nat.le_of_ble_eq_true rfl) (fun x hl F hr hk hcs => ?_)
  subst hl
  refine z_ls [(0, zr G x0), (1, .int x1)] [0, 1] rfl ?_
  unfold fX10_sign at h
  refine z_aload_n F dX10_sign_0 rfl 0 rfl ?_
  refine zg_10_5 F t0 wF_X10_150 dX10_sign_1 ?_
  refine z_if_eq F 8 dX10_sign_4 rfl (fun hc => ?_) (fun hc => ?_)
  · replace h := zif_t hc h
    refine z_aload_n F dX10_sign_8 rfl 0 rfl ?_
    obtain ⟨v_1, hq9, h⟩ := zbindv_ex h
    refine z_callVv F [] [] (kX10_blanks x.2.1 G x0 t0 v v_1 hq9) mI_X10_blanks (c := 10) rfl t0 wM_X10_156 mi_X10_blanks sl_X10_blanks dX10_sign_9 rfl ⟨Nat.le_of_ble_eq_true rfl, Nat.le_of_ble_eq_true rfl⟩ rfl (Nat.le_of_ble_eq_true rfl) ⟨Nat.zero_le _, Nat.zero_le _⟩ ?_
    refine z_aload_n F dX10_sign_12 rfl 0 rfl ?_
    refine z_aload_n F dX10_sign_13 rfl 0 rfl ?_
    refine zg_10_4 F t0 wF_X10_143 dX10_sign_14 ?_
    obtain ⟨r_3, v_2, hq17, h⟩ := zbind_ex h
    refine z_callVi F [.int (v_1 x0 4)] [] (kX10_byteAt x.2.1 G x0 t0 (v_1 x0 4) v_1 r_3 v_2 hq17) mI_X10_byteAt (c := 10) rfl t0 wM_X10_146 mi_X10_byteAt sl_X10_byteAt dX10_sign_17 rfl ⟨Nat.le_of_ble_eq_true rfl, Nat.le_of_ble_eq_true rfl⟩ rfl (Nat.le_of_ble_eq_true rfl) ⟨Nat.zero_le _, Nat.zero_le _⟩ ?_
    refine z_iload_n F dX10_sign_20 rfl 1 rfl ?_
    refine z_icmp_ne F 37 dX10_sign_21 rfl (fun hc => ?_) (fun hc => ?_)
    · replace h := zif_f hc h
      refine z_aload_n F dX10_sign_37 rfl 0 rfl ?_
      refine z_iconst (y := (1 : Int32)) F dX10_sign_38 rfl ?_
      refine z_aload_n F dX10_sign_39 rfl 0 rfl ?_
      refine zg_10_4 F t0 wF_X10_143 dX10_sign_40 ?_
      obtain ⟨v_4, hq43, h⟩ := zbindv_ex h
      refine z_callVv F [.int (1 : Int32), .int (v_2 x0 4)] [] (kX10_wrong x.2.1 G x0 t0 (1 : Int32) (v_2 x0 4) v_2 v_4 hq43) mI_X10_wrong (c := 10) rfl t0 wM_X10_163 mi_X10_wrong sl_X10_wrong dX10_sign_43 rfl ⟨Nat.le_of_ble_eq_true rfl, Nat.le_of_ble_eq_true rfl⟩ rfl (Nat.le_of_ble_eq_true rfl) ⟨Nat.zero_le _, Nat.zero_le _⟩ ?_
      cases h
      exact z_retv F hr hk dX10_sign_46
    · replace h := zif_t hc h
      refine z_aload_n F dX10_sign_24 rfl 0 rfl ?_
      refine z_dup F dX10_sign_25 rfl ?_
      refine zg_10_4 F t0 wF_X10_143 dX10_sign_26 ?_
      refine z_iconst (y := (1 : Int32)) F dX10_sign_29 rfl ?_
      refine z_iadd F dX10_sign_30 ?_
      refine zp_10_4 F t0 wF_X10_143 dX10_sign_31 ?_
      obtain ⟨v_5, ev_5, h⟩ := zlet_ex h
      refine z_heap ev_5 ?_
      refine z_goto F 46 dX10_sign_34 rfl ?_
      cases h
      exact z_retv F hr hk dX10_sign_46
  · replace h := zif_f hc h
    cases h
    exact z_retv F hr hk dX10_sign_7

theorem dX10_takesSign_0 : decode cX10_takesSign 0 = .ok (.aload_n 0, 1) := by decide +kernel
theorem dX10_takesSign_1 : decode cX10_takesSign 1 = .ok (.getfield 150, 3) := by decide +kernel
theorem dX10_takesSign_4 : decode cX10_takesSign 4 = .ok (.ifCond .eq 5, 3) := by decide +kernel
theorem dX10_takesSign_7 : decode cX10_takesSign 7 = .ok (.iconst 0, 1) := by decide +kernel
theorem dX10_takesSign_8 : decode cX10_takesSign 8 = .ok (.ireturn, 1) := by decide +kernel
theorem dX10_takesSign_9 : decode cX10_takesSign 9 = .ok (.aload_n 0, 1) := by decide +kernel
theorem dX10_takesSign_10 : decode cX10_takesSign 10 = .ok (.invokevirtual 156, 3) := by decide +kernel
theorem dX10_takesSign_13 : decode cX10_takesSign 13 = .ok (.aload_n 0, 1) := by decide +kernel
theorem dX10_takesSign_14 : decode cX10_takesSign 14 = .ok (.aload_n 0, 1) := by decide +kernel
theorem dX10_takesSign_15 : decode cX10_takesSign 15 = .ok (.getfield 143, 3) := by decide +kernel
theorem dX10_takesSign_18 : decode cX10_takesSign 18 = .ok (.invokevirtual 146, 3) := by decide +kernel
theorem dX10_takesSign_21 : decode cX10_takesSign 21 = .ok (.iload_n 1, 1) := by decide +kernel
theorem dX10_takesSign_22 : decode cX10_takesSign 22 = .ok (.if_icmp .ne 7, 3) := by decide +kernel
theorem dX10_takesSign_25 : decode cX10_takesSign 25 = .ok (.iconst 1, 1) := by decide +kernel
theorem dX10_takesSign_26 : decode cX10_takesSign 26 = .ok (.goto 4, 3) := by decide +kernel
theorem dX10_takesSign_29 : decode cX10_takesSign 29 = .ok (.iconst 0, 1) := by decide +kernel
theorem dX10_takesSign_30 : decode cX10_takesSign 30 = .ok (.istore_n 2, 1) := by decide +kernel
theorem dX10_takesSign_31 : decode cX10_takesSign 31 = .ok (.iload_n 2, 1) := by decide +kernel
theorem dX10_takesSign_32 : decode cX10_takesSign 32 = .ok (.ifCond .eq 13, 3) := by decide +kernel
theorem dX10_takesSign_35 : decode cX10_takesSign 35 = .ok (.aload_n 0, 1) := by decide +kernel
theorem dX10_takesSign_36 : decode cX10_takesSign 36 = .ok (.dup, 1) := by decide +kernel
theorem dX10_takesSign_37 : decode cX10_takesSign 37 = .ok (.getfield 143, 3) := by decide +kernel
theorem dX10_takesSign_40 : decode cX10_takesSign 40 = .ok (.iconst 1, 1) := by decide +kernel
theorem dX10_takesSign_41 : decode cX10_takesSign 41 = .ok (.iadd, 1) := by decide +kernel
theorem dX10_takesSign_42 : decode cX10_takesSign 42 = .ok (.putfield 143, 3) := by decide +kernel
theorem dX10_takesSign_45 : decode cX10_takesSign 45 = .ok (.iload_n 2, 1) := by decide +kernel
theorem dX10_takesSign_46 : decode cX10_takesSign 46 = .ok (.ireturn, 1) := by decide +kernel
def fX10_takesSign (x0 : Nat) (x1 : Int32) (v : zV) : Option (Int32 × zV) :=
  if (v x0 5) = (0 : Int32) then
    zbindv (fX10_blanks x0 v) fun v_1 =>
    zbind (fX10_byteAt x0 (v_1 x0 4) v_1) fun r_3 v_2 =>
    if r_3 = x1 then
      if (1 : Int32) = (0 : Int32) then
        some ((1 : Int32), v_2)
      else
        zlet (zup v_2 x0 4 ((v_2 x0 4) + (1 : Int32))) fun v_5 =>
        some ((1 : Int32), v_5)
    else
      if (0 : Int32) = (0 : Int32) then
        some ((0 : Int32), v_2)
      else
        zlet (zup v_2 x0 4 ((v_2 x0 4) + (1 : Int32))) fun v_4 =>
        some ((0 : Int32), v_4)
  else
    some ((0 : Int32), v)
set_option maxRecDepth 4000 in
theorem kX10_takesSign (l : Launch) (G : zG) (x0 : Nat) (t0 : zty G x0 1 10) (x1 : Int32) (v : zV) (r : Int32) (w : zV) (h : fX10_takesSign x0 x1 v = some (r, w)) : zMet l yX10_takesSign cX10_takesSign 3 (Option.some FieldType.boolean) 3 121 0 0 [zr G x0, .int x1] G v (some (.int r)) w := by
  refine zM_of (own := RX10) (by decide) rfl (Nat.le_of_ble_eq_true rfl) (fun x hl F hr hk hcs => ?_)
  subst hl
  refine z_ls [(0, zr G x0), (1, .int x1)] [0, 1] rfl ?_
  unfold fX10_takesSign at h
  refine z_aload_n F dX10_takesSign_0 rfl 0 rfl ?_
  refine zg_10_5 F t0 wF_X10_150 dX10_takesSign_1 ?_
  refine z_if_eq F 9 dX10_takesSign_4 rfl (fun hc => ?_) (fun hc => ?_)
  · replace h := zif_t hc h
    refine z_aload_n F dX10_takesSign_9 rfl 0 rfl ?_
    obtain ⟨v_1, hq10, h⟩ := zbindv_ex h
    refine z_callVv F [] [] (kX10_blanks x.2.1 G x0 t0 v v_1 hq10) mI_X10_blanks (c := 10) rfl t0 wM_X10_156 mi_X10_blanks sl_X10_blanks dX10_takesSign_10 rfl ⟨Nat.le_of_ble_eq_true rfl, Nat.le_of_ble_eq_true rfl⟩ rfl (Nat.le_of_ble_eq_true rfl) ⟨Nat.zero_le _, Nat.zero_le _⟩ ?_
    refine z_aload_n F dX10_takesSign_13 rfl 0 rfl ?_
    refine z_aload_n F dX10_takesSign_14 rfl 0 rfl ?_
    refine zg_10_4 F t0 wF_X10_143 dX10_takesSign_15 ?_
    obtain ⟨r_3, v_2, hq18, h⟩ := zbind_ex h
    refine z_callVi F [.int (v_1 x0 4)] [] (kX10_byteAt x.2.1 G x0 t0 (v_1 x0 4) v_1 r_3 v_2 hq18) mI_X10_byteAt (c := 10) rfl t0 wM_X10_146 mi_X10_byteAt sl_X10_byteAt dX10_takesSign_18 rfl ⟨Nat.le_of_ble_eq_true rfl, Nat.le_of_ble_eq_true rfl⟩ rfl (Nat.le_of_ble_eq_true rfl) ⟨Nat.zero_le _, Nat.zero_le _⟩ ?_
    refine z_iload_n F dX10_takesSign_21 rfl 1 rfl ?_
    refine z_icmp_ne F 29 dX10_takesSign_22 rfl (fun hc => ?_) (fun hc => ?_)
    · replace h := zif_f hc h
      refine z_iconst (y := (0 : Int32)) F dX10_takesSign_29 rfl ?_
      refine z_istore_n F [(2, .int (0 : Int32)), (0, zr G x0), (1, .int x1)] dX10_takesSign_30 rfl (Nat.le_of_ble_eq_true rfl) rfl ?_
      refine z_iload_n F dX10_takesSign_31 rfl 0 rfl ?_
      refine z_if_eq F 45 dX10_takesSign_32 rfl (fun hc => ?_) (fun hc => ?_)
      · replace h := zif_t hc h
        refine z_iload_n F dX10_takesSign_45 rfl 0 rfl ?_
        cases h
        exact z_retz F hr hk rfl dX10_takesSign_46
      · replace h := zif_f hc h
        refine z_aload_n F dX10_takesSign_35 rfl 1 rfl ?_
        refine z_dup F dX10_takesSign_36 rfl ?_
        refine zg_10_4 F t0 wF_X10_143 dX10_takesSign_37 ?_
        refine z_iconst (y := (1 : Int32)) F dX10_takesSign_40 rfl ?_
        refine z_iadd F dX10_takesSign_41 ?_
        refine zp_10_4 F t0 wF_X10_143 dX10_takesSign_42 ?_
        obtain ⟨v_4, ev_4, h⟩ := zlet_ex h
        refine z_heap ev_4 ?_
        refine z_iload_n F dX10_takesSign_45 rfl 0 rfl ?_
        cases h
        exact z_retz F hr hk rfl dX10_takesSign_46
    · replace h := zif_t hc h
      refine z_iconst (y := (1 : Int32)) F dX10_takesSign_25 rfl ?_
      refine z_goto F 30 dX10_takesSign_26 rfl ?_
      refine z_istore_n F [(2, .int (1 : Int32)), (0, zr G x0), (1, .int x1)] dX10_takesSign_30 rfl (Nat.le_of_ble_eq_true rfl) rfl ?_
      refine z_iload_n F dX10_takesSign_31 rfl 0 rfl ?_
      refine z_if_eq F 45 dX10_takesSign_32 rfl (fun hc => ?_) (fun hc => ?_)
      · replace h := zif_t hc h
        refine z_iload_n F dX10_takesSign_45 rfl 0 rfl ?_
        cases h
        exact z_retz F hr hk rfl dX10_takesSign_46
      · replace h := zif_f hc h
        refine z_aload_n F dX10_takesSign_35 rfl 1 rfl ?_
        refine z_dup F dX10_takesSign_36 rfl ?_
        refine zg_10_4 F t0 wF_X10_143 dX10_takesSign_37 ?_
        refine z_iconst (y := (1 : Int32)) F dX10_takesSign_40 rfl ?_
        refine z_iadd F dX10_takesSign_41 ?_
        refine zp_10_4 F t0 wF_X10_143 dX10_takesSign_42 ?_
        obtain ⟨v_5, ev_5, h⟩ := zlet_ex h
        refine z_heap ev_5 ?_
        refine z_iload_n F dX10_takesSign_45 rfl 0 rfl ?_
        cases h
        exact z_retz F hr hk rfl dX10_takesSign_46
  · replace h := zif_f hc h
    refine z_iconst (y := (0 : Int32)) F dX10_takesSign_7 rfl ?_
    cases h
    exact z_retz F hr hk rfl dX10_takesSign_8

theorem dX10_starts_0 : decode cX10_starts 0 = .ok (.aload_n 0, 1) := by decide +kernel
theorem dX10_starts_1 : decode cX10_starts 1 = .ok (.iconst 0, 1) := by decide +kernel
theorem dX10_starts_2 : decode cX10_starts 2 = .ok (.putfield 137, 3) := by decide +kernel
theorem dX10_starts_5 : decode cX10_starts 5 = .ok (.aload_n 0, 1) := by decide +kernel
theorem dX10_starts_6 : decode cX10_starts 6 = .ok (.iload_n 1, 1) := by decide +kernel
theorem dX10_starts_7 : decode cX10_starts 7 = .ok (.putfield 140, 3) := by decide +kernel
theorem dX10_starts_10 : decode cX10_starts 10 = .ok (.aload_n 0, 1) := by decide +kernel
theorem dX10_starts_11 : decode cX10_starts 11 = .ok (.iconst 0, 1) := by decide +kernel
theorem dX10_starts_12 : decode cX10_starts 12 = .ok (.putfield 143, 3) := by decide +kernel
theorem dX10_starts_15 : decode cX10_starts 15 = .ok (.aload_n 0, 1) := by decide +kernel
theorem dX10_starts_16 : decode cX10_starts 16 = .ok (.iconst 0, 1) := by decide +kernel
theorem dX10_starts_17 : decode cX10_starts 17 = .ok (.putfield 150, 3) := by decide +kernel
theorem dX10_starts_20 : decode cX10_starts 20 = .ok (.aload_n 0, 1) := by decide +kernel
theorem dX10_starts_21 : decode cX10_starts 21 = .ok (.iconst (-1), 1) := by decide +kernel
theorem dX10_starts_22 : decode cX10_starts 22 = .ok (.putfield 153, 3) := by decide +kernel
theorem dX10_starts_25 : decode cX10_starts 25 = .ok (.aload_n 0, 1) := by decide +kernel
theorem dX10_starts_26 : decode cX10_starts 26 = .ok (.iconst 0, 1) := by decide +kernel
theorem dX10_starts_27 : decode cX10_starts 27 = .ok (.putfield 196, 3) := by decide +kernel
theorem dX10_starts_30 : decode cX10_starts 30 = .ok (.aload_n 0, 1) := by decide +kernel
theorem dX10_starts_31 : decode cX10_starts 31 = .ok (.iconst 0, 1) := by decide +kernel
theorem dX10_starts_32 : decode cX10_starts 32 = .ok (.putfield 199, 3) := by decide +kernel
theorem dX10_starts_35 : decode cX10_starts 35 = .ok (.aload_n 0, 1) := by decide +kernel
theorem dX10_starts_36 : decode cX10_starts 36 = .ok (.invokevirtual 156, 3) := by decide +kernel
theorem dX10_starts_39 : decode cX10_starts 39 = .ok (.return_, 1) := by decide +kernel
def fX10_starts (x0 : Nat) (x1 : Int32) (v : zV) : Option zV :=
  zlet (zup v x0 1 (0 : Int32)) fun v_1 =>
  zlet (zup v_1 x0 2 x1) fun v_2 =>
  zlet (zup v_2 x0 4 (0 : Int32)) fun v_3 =>
  zlet (zup v_3 x0 5 (0 : Int32)) fun v_4 =>
  zlet (zup v_4 x0 6 (-1 : Int32)) fun v_5 =>
  zlet (zup v_5 x0 7 (0 : Int32)) fun v_6 =>
  zlet (zup v_6 x0 8 (0 : Int32)) fun v_7 =>
  zbindv (fX10_blanks x0 v_7) fun v_8 =>
  some v_8
set_option maxRecDepth 4000 in
theorem kX10_starts (l : Launch) (G : zG) (x0 : Nat) (t0 : zty G x0 1 10) (x1 : Int32) (v : zV) (w : zV) (h : fX10_starts x0 x1 v = some w) : zMet l yX10_starts cX10_starts 2 (Option.none : Option FieldType) 3 121 0 0 [zr G x0, .int x1] G v none w := by
  refine zM_of (own := RX10) (by decide) rfl (Nat.le_of_ble_eq_true rfl) (fun x hl F hr hk hcs => ?_)
  subst hl
  refine z_ls [(0, zr G x0), (1, .int x1)] [0, 1] rfl ?_
  unfold fX10_starts at h
  refine z_aload_n F dX10_starts_0 rfl 0 rfl ?_
  refine z_iconst (y := (0 : Int32)) F dX10_starts_1 rfl ?_
  refine zp_10_1 F t0 wF_X10_137 dX10_starts_2 ?_
  obtain ⟨v_1, ev_1, h⟩ := zlet_ex h
  refine z_heap ev_1 ?_
  refine z_aload_n F dX10_starts_5 rfl 0 rfl ?_
  refine z_iload_n F dX10_starts_6 rfl 1 rfl ?_
  refine zp_10_2 F t0 wF_X10_140 dX10_starts_7 ?_
  obtain ⟨v_2, ev_2, h⟩ := zlet_ex h
  refine z_heap ev_2 ?_
  refine z_aload_n F dX10_starts_10 rfl 0 rfl ?_
  refine z_iconst (y := (0 : Int32)) F dX10_starts_11 rfl ?_
  refine zp_10_4 F t0 wF_X10_143 dX10_starts_12 ?_
  obtain ⟨v_3, ev_3, h⟩ := zlet_ex h
  refine z_heap ev_3 ?_
  refine z_aload_n F dX10_starts_15 rfl 0 rfl ?_
  refine z_iconst (y := (0 : Int32)) F dX10_starts_16 rfl ?_
  refine zp_10_5 F t0 wF_X10_150 dX10_starts_17 ?_
  obtain ⟨v_4, ev_4, h⟩ := zlet_ex h
  refine z_heap ev_4 ?_
  refine z_aload_n F dX10_starts_20 rfl 0 rfl ?_
  refine z_iconst (y := (-1 : Int32)) F dX10_starts_21 rfl ?_
  refine zp_10_6 F t0 wF_X10_153 dX10_starts_22 ?_
  obtain ⟨v_5, ev_5, h⟩ := zlet_ex h
  refine z_heap ev_5 ?_
  refine z_aload_n F dX10_starts_25 rfl 0 rfl ?_
  refine z_iconst (y := (0 : Int32)) F dX10_starts_26 rfl ?_
  refine zp_10_7 F t0 wF_X10_196 dX10_starts_27 ?_
  obtain ⟨v_6, ev_6, h⟩ := zlet_ex h
  refine z_heap ev_6 ?_
  refine z_aload_n F dX10_starts_30 rfl 0 rfl ?_
  refine z_iconst (y := (0 : Int32)) F dX10_starts_31 rfl ?_
  refine zp_10_8 F t0 wF_X10_199 dX10_starts_32 ?_
  obtain ⟨v_7, ev_7, h⟩ := zlet_ex h
  refine z_heap ev_7 ?_
  refine z_aload_n F dX10_starts_35 rfl 0 rfl ?_
  obtain ⟨v_8, hq36, h⟩ := zbindv_ex h
  refine z_callVv F [] [] (kX10_blanks x.2.1 G x0 t0 v_7 v_8 hq36) mI_X10_blanks (c := 10) rfl t0 wM_X10_156 mi_X10_blanks sl_X10_blanks dX10_starts_36 rfl ⟨Nat.le_of_ble_eq_true rfl, Nat.le_of_ble_eq_true rfl⟩ rfl (Nat.le_of_ble_eq_true rfl) ⟨Nat.zero_le _, Nat.zero_le _⟩ ?_
  cases h
  exact z_retv F hr hk dX10_starts_39

theorem dX10_ends_0 : decode cX10_ends 0 = .ok (.aload_n 0, 1) := by decide +kernel
theorem dX10_ends_1 : decode cX10_ends 1 = .ok (.aload_n 0, 1) := by decide +kernel
theorem dX10_ends_2 : decode cX10_ends 2 = .ok (.getfield 153, 3) := by decide +kernel
theorem dX10_ends_5 : decode cX10_ends 5 = .ok (.putfield 9, 3) := by decide +kernel
theorem dX10_ends_8 : decode cX10_ends 8 = .ok (.aload_n 0, 1) := by decide +kernel
theorem dX10_ends_9 : decode cX10_ends 9 = .ok (.getfield 150, 3) := by decide +kernel
theorem dX10_ends_12 : decode cX10_ends 12 = .ok (.bipush 10, 2) := by decide +kernel
theorem dX10_ends_14 : decode cX10_ends 14 = .ok (.isub, 1) := by decide +kernel
theorem dX10_ends_15 : decode cX10_ends 15 = .ok (.ireturn, 1) := by decide +kernel
def fX10_ends (x0 : Nat) (v : zV) : Option (Int32 × zV) :=
  zlet (zup v x0 3 (v x0 6)) fun v_1 =>
  some ((v_1 x0 5) - (10 : Int32), v_1)
set_option maxRecDepth 4000 in
theorem kX10_ends (l : Launch) (G : zG) (x0 : Nat) (t0 : zty G x0 1 10) (v : zV) (r : Int32) (w : zV) (h : fX10_ends x0 v = some (r, w)) : zMet l yX10_ends cX10_ends 1 (Option.some FieldType.int) 1 80 0 0 [zr G x0] G v (some (.int r)) w := by
  refine zM_of (own := RX10) (by decide) rfl (Nat.le_of_ble_eq_true rfl) (fun x hl F hr hk hcs => ?_)
  subst hl
  refine z_ls [(0, zr G x0)] [0] rfl ?_
  unfold fX10_ends at h
  refine z_aload_n F dX10_ends_0 rfl 0 rfl ?_
  refine z_aload_n F dX10_ends_1 rfl 0 rfl ?_
  refine zg_10_6 F t0 wF_X10_153 dX10_ends_2 ?_
  refine zp_10_3 F t0 wF_X10_9 dX10_ends_5 ?_
  obtain ⟨v_1, ev_1, h⟩ := zlet_ex h
  refine z_heap ev_1 ?_
  refine z_aload_n F dX10_ends_8 rfl 0 rfl ?_
  refine zg_10_5 F t0 wF_X10_150 dX10_ends_9 ?_
  refine z_bipush (y := (10 : Int32)) F dX10_ends_12 rfl ?_
  refine z_isub F dX10_ends_14 ?_
  cases h
  exact z_reti F hr hk dX10_ends_15

theorem dX10_kindHere_0 : decode cX10_kindHere 0 = .ok (.aload_n 0, 1) := by decide +kernel
theorem dX10_kindHere_1 : decode cX10_kindHere 1 = .ok (.bipush 17, 2) := by decide +kernel
theorem dX10_kindHere_3 : decode cX10_kindHere 3 = .ok (.bipush 21, 2) := by decide +kernel
theorem dX10_kindHere_5 : decode cX10_kindHere 5 = .ok (.iconst 5, 1) := by decide +kernel
theorem dX10_kindHere_6 : decode cX10_kindHere 6 = .ok (.bipush 19, 2) := by decide +kernel
theorem dX10_kindHere_8 : decode cX10_kindHere 8 = .ok (.bipush 20, 2) := by decide +kernel
theorem dX10_kindHere_10 : decode cX10_kindHere 10 = .ok (.bipush 9, 2) := by decide +kernel
theorem dX10_kindHere_12 : decode cX10_kindHere 12 = .ok (.bipush 15, 2) := by decide +kernel
theorem dX10_kindHere_14 : decode cX10_kindHere 14 = .ok (.bipush 14, 2) := by decide +kernel
theorem dX10_kindHere_16 : decode cX10_kindHere 16 = .ok (.invokevirtual 189, 3) := by decide +kernel
theorem dX10_kindHere_19 : decode cX10_kindHere 19 = .ok (.ifCond .eq 5, 3) := by decide +kernel
theorem dX10_kindHere_22 : decode cX10_kindHere 22 = .ok (.iconst 0, 1) := by decide +kernel
theorem dX10_kindHere_23 : decode cX10_kindHere 23 = .ok (.ireturn, 1) := by decide +kernel
theorem dX10_kindHere_24 : decode cX10_kindHere 24 = .ok (.aload_n 0, 1) := by decide +kernel
theorem dX10_kindHere_25 : decode cX10_kindHere 25 = .ok (.bipush 13, 2) := by decide +kernel
theorem dX10_kindHere_27 : decode cX10_kindHere 27 = .ok (.iconst 1, 1) := by decide +kernel
theorem dX10_kindHere_28 : decode cX10_kindHere 28 = .ok (.bipush 14, 2) := by decide +kernel
theorem dX10_kindHere_30 : decode cX10_kindHere 30 = .ok (.iconst 0, 1) := by decide +kernel
theorem dX10_kindHere_31 : decode cX10_kindHere 31 = .ok (.iconst 0, 1) := by decide +kernel
theorem dX10_kindHere_32 : decode cX10_kindHere 32 = .ok (.iconst 0, 1) := by decide +kernel
theorem dX10_kindHere_33 : decode cX10_kindHere 33 = .ok (.iconst 0, 1) := by decide +kernel
theorem dX10_kindHere_34 : decode cX10_kindHere 34 = .ok (.iconst 0, 1) := by decide +kernel
theorem dX10_kindHere_35 : decode cX10_kindHere 35 = .ok (.invokevirtual 189, 3) := by decide +kernel
theorem dX10_kindHere_38 : decode cX10_kindHere 38 = .ok (.ifCond .eq 5, 3) := by decide +kernel
theorem dX10_kindHere_41 : decode cX10_kindHere 41 = .ok (.iconst 1, 1) := by decide +kernel
theorem dX10_kindHere_42 : decode cX10_kindHere 42 = .ok (.ireturn, 1) := by decide +kernel
theorem dX10_kindHere_43 : decode cX10_kindHere 43 = .ok (.aload_n 0, 1) := by decide +kernel
theorem dX10_kindHere_44 : decode cX10_kindHere 44 = .ok (.iconst 3, 1) := by decide +kernel
theorem dX10_kindHere_45 : decode cX10_kindHere 45 = .ok (.bipush 8, 2) := by decide +kernel
theorem dX10_kindHere_47 : decode cX10_kindHere 47 = .ok (.iconst 1, 1) := by decide +kernel
theorem dX10_kindHere_48 : decode cX10_kindHere 48 = .ok (.bipush 9, 2) := by decide +kernel
theorem dX10_kindHere_50 : decode cX10_kindHere 50 = .ok (.bipush 18, 2) := by decide +kernel
theorem dX10_kindHere_52 : decode cX10_kindHere 52 = .ok (.bipush 19, 2) := by decide +kernel
theorem dX10_kindHere_54 : decode cX10_kindHere 54 = .ok (.iconst 0, 1) := by decide +kernel
theorem dX10_kindHere_55 : decode cX10_kindHere 55 = .ok (.iconst 0, 1) := by decide +kernel
theorem dX10_kindHere_56 : decode cX10_kindHere 56 = .ok (.invokevirtual 189, 3) := by decide +kernel
theorem dX10_kindHere_59 : decode cX10_kindHere 59 = .ok (.ifCond .eq 5, 3) := by decide +kernel
theorem dX10_kindHere_62 : decode cX10_kindHere 62 = .ok (.iconst 2, 1) := by decide +kernel
theorem dX10_kindHere_63 : decode cX10_kindHere 63 = .ok (.ireturn, 1) := by decide +kernel
theorem dX10_kindHere_64 : decode cX10_kindHere 64 = .ok (.aload_n 0, 1) := by decide +kernel
theorem dX10_kindHere_65 : decode cX10_kindHere 65 = .ok (.bipush 19, 2) := by decide +kernel
theorem dX10_kindHere_67 : decode cX10_kindHere 67 = .ok (.iconst 5, 1) := by decide +kernel
theorem dX10_kindHere_68 : decode cX10_kindHere 68 = .ok (.iconst 1, 1) := by decide +kernel
theorem dX10_kindHere_69 : decode cX10_kindHere 69 = .ok (.bipush 20, 2) := by decide +kernel
theorem dX10_kindHere_71 : decode cX10_kindHere 71 = .ok (.iconst 0, 1) := by decide +kernel
theorem dX10_kindHere_72 : decode cX10_kindHere 72 = .ok (.iconst 0, 1) := by decide +kernel
theorem dX10_kindHere_73 : decode cX10_kindHere 73 = .ok (.iconst 0, 1) := by decide +kernel
theorem dX10_kindHere_74 : decode cX10_kindHere 74 = .ok (.iconst 0, 1) := by decide +kernel
theorem dX10_kindHere_75 : decode cX10_kindHere 75 = .ok (.invokevirtual 189, 3) := by decide +kernel
theorem dX10_kindHere_78 : decode cX10_kindHere 78 = .ok (.ifCond .eq 5, 3) := by decide +kernel
theorem dX10_kindHere_81 : decode cX10_kindHere 81 = .ok (.iconst 3, 1) := by decide +kernel
theorem dX10_kindHere_82 : decode cX10_kindHere 82 = .ok (.ireturn, 1) := by decide +kernel
theorem dX10_kindHere_83 : decode cX10_kindHere 83 = .ok (.aload_n 0, 1) := by decide +kernel
theorem dX10_kindHere_84 : decode cX10_kindHere 84 = .ok (.iconst 4, 1) := by decide +kernel
theorem dX10_kindHere_85 : decode cX10_kindHere 85 = .ok (.bipush 9, 2) := by decide +kernel
theorem dX10_kindHere_87 : decode cX10_kindHere 87 = .ok (.iconst 5, 1) := by decide +kernel
theorem dX10_kindHere_88 : decode cX10_kindHere 88 = .ok (.bipush 19, 2) := by decide +kernel
theorem dX10_kindHere_90 : decode cX10_kindHere 90 = .ok (.iconst 0, 1) := by decide +kernel
theorem dX10_kindHere_91 : decode cX10_kindHere 91 = .ok (.iconst 0, 1) := by decide +kernel
theorem dX10_kindHere_92 : decode cX10_kindHere 92 = .ok (.iconst 0, 1) := by decide +kernel
theorem dX10_kindHere_93 : decode cX10_kindHere 93 = .ok (.iconst 0, 1) := by decide +kernel
theorem dX10_kindHere_94 : decode cX10_kindHere 94 = .ok (.invokevirtual 189, 3) := by decide +kernel
theorem dX10_kindHere_97 : decode cX10_kindHere 97 = .ok (.ifCond .eq 5, 3) := by decide +kernel
theorem dX10_kindHere_100 : decode cX10_kindHere 100 = .ok (.iconst 4, 1) := by decide +kernel
theorem dX10_kindHere_101 : decode cX10_kindHere 101 = .ok (.ireturn, 1) := by decide +kernel
theorem dX10_kindHere_102 : decode cX10_kindHere 102 = .ok (.aload_n 0, 1) := by decide +kernel
theorem dX10_kindHere_103 : decode cX10_kindHere 103 = .ok (.bipush 16, 2) := by decide +kernel
theorem dX10_kindHere_105 : decode cX10_kindHere 105 = .ok (.bipush 18, 2) := by decide +kernel
theorem dX10_kindHere_107 : decode cX10_kindHere 107 = .ok (.iconst 1, 1) := by decide +kernel
theorem dX10_kindHere_108 : decode cX10_kindHere 108 = .ok (.bipush 9, 2) := by decide +kernel
theorem dX10_kindHere_110 : decode cX10_kindHere 110 = .ok (.bipush 19, 2) := by decide +kernel
theorem dX10_kindHere_112 : decode cX10_kindHere 112 = .ok (.iconst 5, 1) := by decide +kernel
theorem dX10_kindHere_113 : decode cX10_kindHere 113 = .ok (.iconst 0, 1) := by decide +kernel
theorem dX10_kindHere_114 : decode cX10_kindHere 114 = .ok (.iconst 0, 1) := by decide +kernel
theorem dX10_kindHere_115 : decode cX10_kindHere 115 = .ok (.invokevirtual 189, 3) := by decide +kernel
theorem dX10_kindHere_118 : decode cX10_kindHere 118 = .ok (.ifCond .eq 7, 3) := by decide +kernel
theorem dX10_kindHere_121 : decode cX10_kindHere 121 = .ok (.iconst 5, 1) := by decide +kernel
theorem dX10_kindHere_122 : decode cX10_kindHere 122 = .ok (.goto 4, 3) := by decide +kernel
theorem dX10_kindHere_125 : decode cX10_kindHere 125 = .ok (.iconst (-1), 1) := by decide +kernel
theorem dX10_kindHere_126 : decode cX10_kindHere 126 = .ok (.ireturn, 1) := by decide +kernel
def fX10_kindHere (x0 : Nat) (v : zV) : Option (Int32 × zV) :=
  zbind (fX10_isWord x0 (17 : Int32) (21 : Int32) (5 : Int32) (19 : Int32) (20 : Int32) (9 : Int32) (15 : Int32) (14 : Int32) v) fun r_2 v_1 =>
  if r_2 = (0 : Int32) then
    zbind (fX10_isWord x0 (13 : Int32) (1 : Int32) (14 : Int32) (0 : Int32) (0 : Int32) (0 : Int32) (0 : Int32) (0 : Int32) v_1) fun r_4 v_3 =>
    if r_4 = (0 : Int32) then
      zbind (fX10_isWord x0 (3 : Int32) (8 : Int32) (1 : Int32) (9 : Int32) (18 : Int32) (19 : Int32) (0 : Int32) (0 : Int32) v_3) fun r_6 v_5 =>
      if r_6 = (0 : Int32) then
        zbind (fX10_isWord x0 (19 : Int32) (5 : Int32) (1 : Int32) (20 : Int32) (0 : Int32) (0 : Int32) (0 : Int32) (0 : Int32) v_5) fun r_8 v_7 =>
        if r_8 = (0 : Int32) then
          zbind (fX10_isWord x0 (4 : Int32) (9 : Int32) (5 : Int32) (19 : Int32) (0 : Int32) (0 : Int32) (0 : Int32) (0 : Int32) v_7) fun r_10 v_9 =>
          if r_10 = (0 : Int32) then
            zbind (fX10_isWord x0 (16 : Int32) (18 : Int32) (1 : Int32) (9 : Int32) (19 : Int32) (5 : Int32) (0 : Int32) (0 : Int32) v_9) fun r_12 v_11 =>
            if r_12 = (0 : Int32) then
              some ((-1 : Int32), v_11)
            else
              some ((5 : Int32), v_11)
          else
            some ((4 : Int32), v_9)
        else
          some ((3 : Int32), v_7)
      else
        some ((2 : Int32), v_5)
    else
      some ((1 : Int32), v_3)
  else
    some ((0 : Int32), v_1)
set_option maxRecDepth 4000 in
theorem kX10_kindHere (l : Launch) (G : zG) (x0 : Nat) (t0 : zty G x0 1 10) (v : zV) (r : Int32) (w : zV) (h : fX10_kindHere x0 v = some (r, w)) : zMet l yX10_kindHere cX10_kindHere 1 (Option.some FieldType.int) 5 172 0 0 [zr G x0] G v (some (.int r)) w := by
  refine zM_of (own := RX10) (by decide) rfl (Nat.le_of_ble_eq_true rfl) (fun x hl F hr hk hcs => ?_)
  subst hl
  refine z_ls [(0, zr G x0)] [0] rfl ?_
  unfold fX10_kindHere at h
  refine z_aload_n F dX10_kindHere_0 rfl 0 rfl ?_
  refine z_bipush (y := (17 : Int32)) F dX10_kindHere_1 rfl ?_
  refine z_bipush (y := (21 : Int32)) F dX10_kindHere_3 rfl ?_
  refine z_iconst (y := (5 : Int32)) F dX10_kindHere_5 rfl ?_
  refine z_bipush (y := (19 : Int32)) F dX10_kindHere_6 rfl ?_
  refine z_bipush (y := (20 : Int32)) F dX10_kindHere_8 rfl ?_
  refine z_bipush (y := (9 : Int32)) F dX10_kindHere_10 rfl ?_
  refine z_bipush (y := (15 : Int32)) F dX10_kindHere_12 rfl ?_
  refine z_bipush (y := (14 : Int32)) F dX10_kindHere_14 rfl ?_
  obtain ⟨r_2, v_1, hq16, h⟩ := zbind_ex h
  refine z_callVi F [.int (17 : Int32), .int (21 : Int32), .int (5 : Int32), .int (19 : Int32), .int (20 : Int32), .int (9 : Int32), .int (15 : Int32), .int (14 : Int32)] [] (kX10_isWord x.2.1 G x0 t0 (17 : Int32) (21 : Int32) (5 : Int32) (19 : Int32) (20 : Int32) (9 : Int32) (15 : Int32) (14 : Int32) v r_2 v_1 hq16) mI_X10_isWord (c := 10) rfl t0 wM_X10_189 mi_X10_isWord sl_X10_isWord dX10_kindHere_16 rfl ⟨Nat.le_of_ble_eq_true rfl, Nat.le_of_ble_eq_true rfl⟩ rfl (Nat.le_of_ble_eq_true rfl) ⟨Nat.zero_le _, Nat.zero_le _⟩ ?_
  refine z_if_eq F 24 dX10_kindHere_19 rfl (fun hc => ?_) (fun hc => ?_)
  · replace h := zif_t hc h
    refine z_aload_n F dX10_kindHere_24 rfl 0 rfl ?_
    refine z_bipush (y := (13 : Int32)) F dX10_kindHere_25 rfl ?_
    refine z_iconst (y := (1 : Int32)) F dX10_kindHere_27 rfl ?_
    refine z_bipush (y := (14 : Int32)) F dX10_kindHere_28 rfl ?_
    refine z_iconst (y := (0 : Int32)) F dX10_kindHere_30 rfl ?_
    refine z_iconst (y := (0 : Int32)) F dX10_kindHere_31 rfl ?_
    refine z_iconst (y := (0 : Int32)) F dX10_kindHere_32 rfl ?_
    refine z_iconst (y := (0 : Int32)) F dX10_kindHere_33 rfl ?_
    refine z_iconst (y := (0 : Int32)) F dX10_kindHere_34 rfl ?_
    obtain ⟨r_4, v_3, hq35, h⟩ := zbind_ex h
    refine z_callVi F [.int (13 : Int32), .int (1 : Int32), .int (14 : Int32), .int (0 : Int32), .int (0 : Int32), .int (0 : Int32), .int (0 : Int32), .int (0 : Int32)] [] (kX10_isWord x.2.1 G x0 t0 (13 : Int32) (1 : Int32) (14 : Int32) (0 : Int32) (0 : Int32) (0 : Int32) (0 : Int32) (0 : Int32) v_1 r_4 v_3 hq35) mI_X10_isWord (c := 10) rfl t0 wM_X10_189 mi_X10_isWord sl_X10_isWord dX10_kindHere_35 rfl ⟨Nat.le_of_ble_eq_true rfl, Nat.le_of_ble_eq_true rfl⟩ rfl (Nat.le_of_ble_eq_true rfl) ⟨Nat.zero_le _, Nat.zero_le _⟩ ?_
    refine z_if_eq F 43 dX10_kindHere_38 rfl (fun hc => ?_) (fun hc => ?_)
    · replace h := zif_t hc h
      refine z_aload_n F dX10_kindHere_43 rfl 0 rfl ?_
      refine z_iconst (y := (3 : Int32)) F dX10_kindHere_44 rfl ?_
      refine z_bipush (y := (8 : Int32)) F dX10_kindHere_45 rfl ?_
      refine z_iconst (y := (1 : Int32)) F dX10_kindHere_47 rfl ?_
      refine z_bipush (y := (9 : Int32)) F dX10_kindHere_48 rfl ?_
      refine z_bipush (y := (18 : Int32)) F dX10_kindHere_50 rfl ?_
      refine z_bipush (y := (19 : Int32)) F dX10_kindHere_52 rfl ?_
      refine z_iconst (y := (0 : Int32)) F dX10_kindHere_54 rfl ?_
      refine z_iconst (y := (0 : Int32)) F dX10_kindHere_55 rfl ?_
      obtain ⟨r_6, v_5, hq56, h⟩ := zbind_ex h
      refine z_callVi F [.int (3 : Int32), .int (8 : Int32), .int (1 : Int32), .int (9 : Int32), .int (18 : Int32), .int (19 : Int32), .int (0 : Int32), .int (0 : Int32)] [] (kX10_isWord x.2.1 G x0 t0 (3 : Int32) (8 : Int32) (1 : Int32) (9 : Int32) (18 : Int32) (19 : Int32) (0 : Int32) (0 : Int32) v_3 r_6 v_5 hq56) mI_X10_isWord (c := 10) rfl t0 wM_X10_189 mi_X10_isWord sl_X10_isWord dX10_kindHere_56 rfl ⟨Nat.le_of_ble_eq_true rfl, Nat.le_of_ble_eq_true rfl⟩ rfl (Nat.le_of_ble_eq_true rfl) ⟨Nat.zero_le _, Nat.zero_le _⟩ ?_
      refine z_if_eq F 64 dX10_kindHere_59 rfl (fun hc => ?_) (fun hc => ?_)
      · replace h := zif_t hc h
        refine z_aload_n F dX10_kindHere_64 rfl 0 rfl ?_
        refine z_bipush (y := (19 : Int32)) F dX10_kindHere_65 rfl ?_
        refine z_iconst (y := (5 : Int32)) F dX10_kindHere_67 rfl ?_
        refine z_iconst (y := (1 : Int32)) F dX10_kindHere_68 rfl ?_
        refine z_bipush (y := (20 : Int32)) F dX10_kindHere_69 rfl ?_
        refine z_iconst (y := (0 : Int32)) F dX10_kindHere_71 rfl ?_
        refine z_iconst (y := (0 : Int32)) F dX10_kindHere_72 rfl ?_
        refine z_iconst (y := (0 : Int32)) F dX10_kindHere_73 rfl ?_
        refine z_iconst (y := (0 : Int32)) F dX10_kindHere_74 rfl ?_
        obtain ⟨r_8, v_7, hq75, h⟩ := zbind_ex h
        refine z_callVi F [.int (19 : Int32), .int (5 : Int32), .int (1 : Int32), .int (20 : Int32), .int (0 : Int32), .int (0 : Int32), .int (0 : Int32), .int (0 : Int32)] [] (kX10_isWord x.2.1 G x0 t0 (19 : Int32) (5 : Int32) (1 : Int32) (20 : Int32) (0 : Int32) (0 : Int32) (0 : Int32) (0 : Int32) v_5 r_8 v_7 hq75) mI_X10_isWord (c := 10) rfl t0 wM_X10_189 mi_X10_isWord sl_X10_isWord dX10_kindHere_75 rfl ⟨Nat.le_of_ble_eq_true rfl, Nat.le_of_ble_eq_true rfl⟩ rfl (Nat.le_of_ble_eq_true rfl) ⟨Nat.zero_le _, Nat.zero_le _⟩ ?_
        refine z_if_eq F 83 dX10_kindHere_78 rfl (fun hc => ?_) (fun hc => ?_)
        · replace h := zif_t hc h
          refine z_aload_n F dX10_kindHere_83 rfl 0 rfl ?_
          refine z_iconst (y := (4 : Int32)) F dX10_kindHere_84 rfl ?_
          refine z_bipush (y := (9 : Int32)) F dX10_kindHere_85 rfl ?_
          refine z_iconst (y := (5 : Int32)) F dX10_kindHere_87 rfl ?_
          refine z_bipush (y := (19 : Int32)) F dX10_kindHere_88 rfl ?_
          refine z_iconst (y := (0 : Int32)) F dX10_kindHere_90 rfl ?_
          refine z_iconst (y := (0 : Int32)) F dX10_kindHere_91 rfl ?_
          refine z_iconst (y := (0 : Int32)) F dX10_kindHere_92 rfl ?_
          refine z_iconst (y := (0 : Int32)) F dX10_kindHere_93 rfl ?_
          obtain ⟨r_10, v_9, hq94, h⟩ := zbind_ex h
          refine z_callVi F [.int (4 : Int32), .int (9 : Int32), .int (5 : Int32), .int (19 : Int32), .int (0 : Int32), .int (0 : Int32), .int (0 : Int32), .int (0 : Int32)] [] (kX10_isWord x.2.1 G x0 t0 (4 : Int32) (9 : Int32) (5 : Int32) (19 : Int32) (0 : Int32) (0 : Int32) (0 : Int32) (0 : Int32) v_7 r_10 v_9 hq94) mI_X10_isWord (c := 10) rfl t0 wM_X10_189 mi_X10_isWord sl_X10_isWord dX10_kindHere_94 rfl ⟨Nat.le_of_ble_eq_true rfl, Nat.le_of_ble_eq_true rfl⟩ rfl (Nat.le_of_ble_eq_true rfl) ⟨Nat.zero_le _, Nat.zero_le _⟩ ?_
          refine z_if_eq F 102 dX10_kindHere_97 rfl (fun hc => ?_) (fun hc => ?_)
          · replace h := zif_t hc h
            refine z_aload_n F dX10_kindHere_102 rfl 0 rfl ?_
            refine z_bipush (y := (16 : Int32)) F dX10_kindHere_103 rfl ?_
            refine z_bipush (y := (18 : Int32)) F dX10_kindHere_105 rfl ?_
            refine z_iconst (y := (1 : Int32)) F dX10_kindHere_107 rfl ?_
            refine z_bipush (y := (9 : Int32)) F dX10_kindHere_108 rfl ?_
            refine z_bipush (y := (19 : Int32)) F dX10_kindHere_110 rfl ?_
            refine z_iconst (y := (5 : Int32)) F dX10_kindHere_112 rfl ?_
            refine z_iconst (y := (0 : Int32)) F dX10_kindHere_113 rfl ?_
            refine z_iconst (y := (0 : Int32)) F dX10_kindHere_114 rfl ?_
            obtain ⟨r_12, v_11, hq115, h⟩ := zbind_ex h
            refine z_callVi F [.int (16 : Int32), .int (18 : Int32), .int (1 : Int32), .int (9 : Int32), .int (19 : Int32), .int (5 : Int32), .int (0 : Int32), .int (0 : Int32)] [] (kX10_isWord x.2.1 G x0 t0 (16 : Int32) (18 : Int32) (1 : Int32) (9 : Int32) (19 : Int32) (5 : Int32) (0 : Int32) (0 : Int32) v_9 r_12 v_11 hq115) mI_X10_isWord (c := 10) rfl t0 wM_X10_189 mi_X10_isWord sl_X10_isWord dX10_kindHere_115 rfl ⟨Nat.le_of_ble_eq_true rfl, Nat.le_of_ble_eq_true rfl⟩ rfl (Nat.le_of_ble_eq_true rfl) ⟨Nat.zero_le _, Nat.zero_le _⟩ ?_
            refine z_if_eq F 125 dX10_kindHere_118 rfl (fun hc => ?_) (fun hc => ?_)
            · replace h := zif_t hc h
              refine z_iconst (y := (-1 : Int32)) F dX10_kindHere_125 rfl ?_
              cases h
              exact z_reti F hr hk dX10_kindHere_126
            · replace h := zif_f hc h
              refine z_iconst (y := (5 : Int32)) F dX10_kindHere_121 rfl ?_
              refine z_goto F 126 dX10_kindHere_122 rfl ?_
              cases h
              exact z_reti F hr hk dX10_kindHere_126
          · replace h := zif_f hc h
            refine z_iconst (y := (4 : Int32)) F dX10_kindHere_100 rfl ?_
            cases h
            exact z_reti F hr hk dX10_kindHere_101
        · replace h := zif_f hc h
          refine z_iconst (y := (3 : Int32)) F dX10_kindHere_81 rfl ?_
          cases h
          exact z_reti F hr hk dX10_kindHere_82
      · replace h := zif_f hc h
        refine z_iconst (y := (2 : Int32)) F dX10_kindHere_62 rfl ?_
        cases h
        exact z_reti F hr hk dX10_kindHere_63
    · replace h := zif_f hc h
      refine z_iconst (y := (1 : Int32)) F dX10_kindHere_41 rfl ?_
      cases h
      exact z_reti F hr hk dX10_kindHere_42
  · replace h := zif_f hc h
    refine z_iconst (y := (0 : Int32)) F dX10_kindHere_22 rfl ?_
    cases h
    exact z_reti F hr hk dX10_kindHere_23

theorem dX10_isFull_0 : decode cX10_isFull 0 = .ok (.iload_n 1, 1) := by decide +kernel
theorem dX10_isFull_1 : decode cX10_isFull 1 = .ok (.tableswitch 111 0 5 #[39, 56, 111, 73, 94, 94], 39) := by decide +kernel
theorem dX10_isFull_40 : decode cX10_isFull 40 = .ok (.aload_n 0, 1) := by decide +kernel
theorem dX10_isFull_41 : decode cX10_isFull 41 = .ok (.getfield 20, 3) := by decide +kernel
theorem dX10_isFull_44 : decode cX10_isFull 44 = .ok (.iconst 0, 1) := by decide +kernel
theorem dX10_isFull_45 : decode cX10_isFull 45 = .ok (.iaload, 1) := by decide +kernel
theorem dX10_isFull_46 : decode cX10_isFull 46 = .ok (.bipush 6, 2) := by decide +kernel
theorem dX10_isFull_48 : decode cX10_isFull 48 = .ok (.if_icmp .ne 7, 3) := by decide +kernel
theorem dX10_isFull_51 : decode cX10_isFull 51 = .ok (.iconst 1, 1) := by decide +kernel
theorem dX10_isFull_52 : decode cX10_isFull 52 = .ok (.goto 4, 3) := by decide +kernel
theorem dX10_isFull_55 : decode cX10_isFull 55 = .ok (.iconst 0, 1) := by decide +kernel
theorem dX10_isFull_56 : decode cX10_isFull 56 = .ok (.ireturn, 1) := by decide +kernel
theorem dX10_isFull_57 : decode cX10_isFull 57 = .ok (.aload_n 0, 1) := by decide +kernel
theorem dX10_isFull_58 : decode cX10_isFull 58 = .ok (.getfield 20, 3) := by decide +kernel
theorem dX10_isFull_61 : decode cX10_isFull 61 = .ok (.iconst 1, 1) := by decide +kernel
theorem dX10_isFull_62 : decode cX10_isFull 62 = .ok (.iaload, 1) := by decide +kernel
theorem dX10_isFull_63 : decode cX10_isFull 63 = .ok (.bipush 16, 2) := by decide +kernel
theorem dX10_isFull_65 : decode cX10_isFull 65 = .ok (.if_icmp .ne 7, 3) := by decide +kernel
theorem dX10_isFull_68 : decode cX10_isFull 68 = .ok (.iconst 1, 1) := by decide +kernel
theorem dX10_isFull_69 : decode cX10_isFull 69 = .ok (.goto 4, 3) := by decide +kernel
theorem dX10_isFull_72 : decode cX10_isFull 72 = .ok (.iconst 0, 1) := by decide +kernel
theorem dX10_isFull_73 : decode cX10_isFull 73 = .ok (.ireturn, 1) := by decide +kernel
theorem dX10_isFull_74 : decode cX10_isFull 74 = .ok (.aload_n 0, 1) := by decide +kernel
theorem dX10_isFull_75 : decode cX10_isFull 75 = .ok (.getfield 20, 3) := by decide +kernel
theorem dX10_isFull_78 : decode cX10_isFull 78 = .ok (.iconst 3, 1) := by decide +kernel
theorem dX10_isFull_79 : decode cX10_isFull 79 = .ok (.iaload, 1) := by decide +kernel
theorem dX10_isFull_80 : decode cX10_isFull 80 = .ok (.aload_n 0, 1) := by decide +kernel
theorem dX10_isFull_81 : decode cX10_isFull 81 = .ok (.getfield 20, 3) := by decide +kernel
theorem dX10_isFull_84 : decode cX10_isFull 84 = .ok (.iconst 2, 1) := by decide +kernel
theorem dX10_isFull_85 : decode cX10_isFull 85 = .ok (.iaload, 1) := by decide +kernel
theorem dX10_isFull_86 : decode cX10_isFull 86 = .ok (.if_icmp .ne 7, 3) := by decide +kernel
theorem dX10_isFull_89 : decode cX10_isFull 89 = .ok (.iconst 1, 1) := by decide +kernel
theorem dX10_isFull_90 : decode cX10_isFull 90 = .ok (.goto 4, 3) := by decide +kernel
theorem dX10_isFull_93 : decode cX10_isFull 93 = .ok (.iconst 0, 1) := by decide +kernel
theorem dX10_isFull_94 : decode cX10_isFull 94 = .ok (.ireturn, 1) := by decide +kernel
theorem dX10_isFull_95 : decode cX10_isFull 95 = .ok (.aload_n 0, 1) := by decide +kernel
theorem dX10_isFull_96 : decode cX10_isFull 96 = .ok (.getfield 20, 3) := by decide +kernel
theorem dX10_isFull_99 : decode cX10_isFull 99 = .ok (.iload_n 1, 1) := by decide +kernel
theorem dX10_isFull_100 : decode cX10_isFull 100 = .ok (.iaload, 1) := by decide +kernel
theorem dX10_isFull_101 : decode cX10_isFull 101 = .ok (.bipush 12, 2) := by decide +kernel
theorem dX10_isFull_103 : decode cX10_isFull 103 = .ok (.if_icmp .ne 7, 3) := by decide +kernel
theorem dX10_isFull_106 : decode cX10_isFull 106 = .ok (.iconst 1, 1) := by decide +kernel
theorem dX10_isFull_107 : decode cX10_isFull 107 = .ok (.goto 4, 3) := by decide +kernel
theorem dX10_isFull_110 : decode cX10_isFull 110 = .ok (.iconst 0, 1) := by decide +kernel
theorem dX10_isFull_111 : decode cX10_isFull 111 = .ok (.ireturn, 1) := by decide +kernel
theorem dX10_isFull_112 : decode cX10_isFull 112 = .ok (.iconst 0, 1) := by decide +kernel
theorem dX10_isFull_113 : decode cX10_isFull 113 = .ok (.ireturn, 1) := by decide +kernel
def fX10_isFull (x0 : Nat) (x1 : Int32) (v : zV) : Option (Int32 × zV) :=
  if x1 = (0 : Int32) then
    zix (0 : Int32) (zlen (zrf x0 11)) <|
    if (v (zrf x0 11) ((0 : Int32)).toNatClampNeg) = (6 : Int32) then
      some ((1 : Int32), v)
    else
      some ((0 : Int32), v)
  else
    if x1 = (1 : Int32) then
      zix (1 : Int32) (zlen (zrf x0 11)) <|
      if (v (zrf x0 11) ((1 : Int32)).toNatClampNeg) = (16 : Int32) then
        some ((1 : Int32), v)
      else
        some ((0 : Int32), v)
    else
      if x1 = (2 : Int32) then
        some ((0 : Int32), v)
      else
        if x1 = (3 : Int32) then
          zix (3 : Int32) (zlen (zrf x0 11)) <|
          zix (2 : Int32) (zlen (zrf x0 11)) <|
          if (v (zrf x0 11) ((3 : Int32)).toNatClampNeg) = (v (zrf x0 11) ((2 : Int32)).toNatClampNeg) then
            some ((1 : Int32), v)
          else
            some ((0 : Int32), v)
        else
          if x1 = (4 : Int32) then
            zix x1 (zlen (zrf x0 11)) <|
            if (v (zrf x0 11) (x1).toNatClampNeg) = (12 : Int32) then
              some ((1 : Int32), v)
            else
              some ((0 : Int32), v)
          else
            if x1 = (5 : Int32) then
              zix x1 (zlen (zrf x0 11)) <|
              if (v (zrf x0 11) (x1).toNatClampNeg) = (12 : Int32) then
                some ((1 : Int32), v)
              else
                some ((0 : Int32), v)
            else
              some ((0 : Int32), v)
set_option maxRecDepth 4000 in
theorem kX10_isFull (l : Launch) (G : zG) (x0 : Nat) (t0 : zty G x0 1 10) (x1 : Int32) (v : zV) (r : Int32) (w : zV) (h : fX10_isFull x0 x1 v = some (r, w)) : zMet l yX10_isFull cX10_isFull 2 (Option.some FieldType.boolean) 1 80 0 0 [zr G x0, .int x1] G v (some (.int r)) w := by
  refine zM_of (own := RX10) (by decide) rfl (Nat.le_of_ble_eq_true rfl) (fun x hl F hr hk hcs => ?_)
  subst hl
  refine z_ls [(0, zr G x0), (1, .int x1)] [0, 1] rfl ?_
  unfold fX10_isFull at h
  refine z_iload_n F dX10_isFull_0 rfl 1 rfl ?_
  by_cases hc : x1 = (0 : Int32)
  · replace h := zif_t hc h
    refine z_swIn F 40 hc dX10_isFull_1 (by decide) (by decide) rfl rfl ?_
    refine z_aload_n F dX10_isFull_40 rfl 0 rfl ?_
    refine zg_10_11 F t0 wF_X10_20 dX10_isFull_41 ?_
    refine z_iconst (y := (0 : Int32)) F dX10_isFull_44 rfl ?_
    obtain ⟨hi45, h⟩ := zix_ex h
    refine z_iald F (zt_f tc_10_11 t0) dX10_isFull_45 hi45 ?_
    refine z_bipush (y := (6 : Int32)) F dX10_isFull_46 rfl ?_
    refine z_icmp_ne F 55 dX10_isFull_48 rfl (fun hc => ?_) (fun hc => ?_)
    · replace h := zif_f hc h
      refine z_iconst (y := (0 : Int32)) F dX10_isFull_55 rfl ?_
      cases h
      exact z_retz F hr hk rfl dX10_isFull_56
    · replace h := zif_t hc h
      refine z_iconst (y := (1 : Int32)) F dX10_isFull_51 rfl ?_
      refine z_goto F 56 dX10_isFull_52 rfl ?_
      cases h
      exact z_retz F hr hk rfl dX10_isFull_56
  · replace h := zif_f hc h
    have hn0 := zsw_ne hc
    by_cases hc : x1 = (1 : Int32)
    · replace h := zif_t hc h
      refine z_swIn F 57 hc dX10_isFull_1 (by decide) (by decide) rfl rfl ?_
      refine z_aload_n F dX10_isFull_57 rfl 0 rfl ?_
      refine zg_10_11 F t0 wF_X10_20 dX10_isFull_58 ?_
      refine z_iconst (y := (1 : Int32)) F dX10_isFull_61 rfl ?_
      obtain ⟨hi62, h⟩ := zix_ex h
      refine z_iald F (zt_f tc_10_11 t0) dX10_isFull_62 hi62 ?_
      refine z_bipush (y := (16 : Int32)) F dX10_isFull_63 rfl ?_
      refine z_icmp_ne F 72 dX10_isFull_65 rfl (fun hc => ?_) (fun hc => ?_)
      · replace h := zif_f hc h
        refine z_iconst (y := (0 : Int32)) F dX10_isFull_72 rfl ?_
        cases h
        exact z_retz F hr hk rfl dX10_isFull_73
      · replace h := zif_t hc h
        refine z_iconst (y := (1 : Int32)) F dX10_isFull_68 rfl ?_
        refine z_goto F 73 dX10_isFull_69 rfl ?_
        cases h
        exact z_retz F hr hk rfl dX10_isFull_73
    · replace h := zif_f hc h
      have hn1 := zsw_ne hc
      by_cases hc : x1 = (2 : Int32)
      · replace h := zif_t hc h
        refine z_swIn F 112 hc dX10_isFull_1 (by decide) (by decide) rfl rfl ?_
        refine z_iconst (y := (0 : Int32)) F dX10_isFull_112 rfl ?_
        cases h
        exact z_retz F hr hk rfl dX10_isFull_113
      · replace h := zif_f hc h
        have hn2 := zsw_ne hc
        by_cases hc : x1 = (3 : Int32)
        · replace h := zif_t hc h
          refine z_swIn F 74 hc dX10_isFull_1 (by decide) (by decide) rfl rfl ?_
          refine z_aload_n F dX10_isFull_74 rfl 0 rfl ?_
          refine zg_10_11 F t0 wF_X10_20 dX10_isFull_75 ?_
          refine z_iconst (y := (3 : Int32)) F dX10_isFull_78 rfl ?_
          obtain ⟨hi79, h⟩ := zix_ex h
          refine z_iald F (zt_f tc_10_11 t0) dX10_isFull_79 hi79 ?_
          refine z_aload_n F dX10_isFull_80 rfl 0 rfl ?_
          refine zg_10_11 F t0 wF_X10_20 dX10_isFull_81 ?_
          refine z_iconst (y := (2 : Int32)) F dX10_isFull_84 rfl ?_
          obtain ⟨hi85, h⟩ := zix_ex h
          refine z_iald F (zt_f tc_10_11 t0) dX10_isFull_85 hi85 ?_
          refine z_icmp_ne F 93 dX10_isFull_86 rfl (fun hc => ?_) (fun hc => ?_)
          · replace h := zif_f hc h
            refine z_iconst (y := (0 : Int32)) F dX10_isFull_93 rfl ?_
            cases h
            exact z_retz F hr hk rfl dX10_isFull_94
          · replace h := zif_t hc h
            refine z_iconst (y := (1 : Int32)) F dX10_isFull_89 rfl ?_
            refine z_goto F 94 dX10_isFull_90 rfl ?_
            cases h
            exact z_retz F hr hk rfl dX10_isFull_94
        · replace h := zif_f hc h
          have hn3 := zsw_ne hc
          by_cases hc : x1 = (4 : Int32)
          · replace h := zif_t hc h
            refine z_swIn F 95 hc dX10_isFull_1 (by decide) (by decide) rfl rfl ?_
            refine z_aload_n F dX10_isFull_95 rfl 0 rfl ?_
            refine zg_10_11 F t0 wF_X10_20 dX10_isFull_96 ?_
            refine z_iload_n F dX10_isFull_99 rfl 1 rfl ?_
            obtain ⟨hi100, h⟩ := zix_ex h
            refine z_iald F (zt_f tc_10_11 t0) dX10_isFull_100 hi100 ?_
            refine z_bipush (y := (12 : Int32)) F dX10_isFull_101 rfl ?_
            refine z_icmp_ne F 110 dX10_isFull_103 rfl (fun hc => ?_) (fun hc => ?_)
            · replace h := zif_f hc h
              refine z_iconst (y := (0 : Int32)) F dX10_isFull_110 rfl ?_
              cases h
              exact z_retz F hr hk rfl dX10_isFull_111
            · replace h := zif_t hc h
              refine z_iconst (y := (1 : Int32)) F dX10_isFull_106 rfl ?_
              refine z_goto F 111 dX10_isFull_107 rfl ?_
              cases h
              exact z_retz F hr hk rfl dX10_isFull_111
          · replace h := zif_f hc h
            have hn4 := zsw_ne hc
            by_cases hc : x1 = (5 : Int32)
            · replace h := zif_t hc h
              refine z_swIn F 95 hc dX10_isFull_1 (by decide) (by decide) rfl rfl ?_
              refine z_aload_n F dX10_isFull_95 rfl 0 rfl ?_
              refine zg_10_11 F t0 wF_X10_20 dX10_isFull_96 ?_
              refine z_iload_n F dX10_isFull_99 rfl 1 rfl ?_
              obtain ⟨hi100, h⟩ := zix_ex h
              refine z_iald F (zt_f tc_10_11 t0) dX10_isFull_100 hi100 ?_
              refine z_bipush (y := (12 : Int32)) F dX10_isFull_101 rfl ?_
              refine z_icmp_ne F 110 dX10_isFull_103 rfl (fun hc => ?_) (fun hc => ?_)
              · replace h := zif_f hc h
                refine z_iconst (y := (0 : Int32)) F dX10_isFull_110 rfl ?_
                cases h
                exact z_retz F hr hk rfl dX10_isFull_111
              · replace h := zif_t hc h
                refine z_iconst (y := (1 : Int32)) F dX10_isFull_106 rfl ?_
                refine z_goto F 111 dX10_isFull_107 rfl ?_
                cases h
                exact z_retz F hr hk rfl dX10_isFull_111
            · replace h := zif_f hc h
              have hn5 := zsw_ne hc
              refine z_tableOut F 112 dX10_isFull_1 (by have q0 : ((0 : Int32) : Int32).toInt = 0 := rfl; have q1 : ((1 : Int32) : Int32).toInt = 1 := rfl; have q2 : ((2 : Int32) : Int32).toInt = 2 := rfl; have q3 : ((3 : Int32) : Int32).toInt = 3 := rfl; have q4 : ((4 : Int32) : Int32).toInt = 4 := rfl; have q5 : ((5 : Int32) : Int32).toInt = 5 := rfl; omega) rfl ?_
              refine z_iconst (y := (0 : Int32)) F dX10_isFull_112 rfl ?_
              cases h
              exact z_retz F hr hk rfl dX10_isFull_113

theorem dX10_manHere_0 : decode cX10_manHere 0 = .ok (.aload_n 0, 1) := by decide +kernel
theorem dX10_manHere_1 : decode cX10_manHere 1 = .ok (.iconst 0, 1) := by decide +kernel
theorem dX10_manHere_2 : decode cX10_manHere 2 = .ok (.aload_n 0, 1) := by decide +kernel
theorem dX10_manHere_3 : decode cX10_manHere 3 = .ok (.getfield 20, 3) := by decide +kernel
theorem dX10_manHere_6 : decode cX10_manHere 6 = .ok (.iconst 1, 1) := by decide +kernel
theorem dX10_manHere_7 : decode cX10_manHere 7 = .ok (.iaload, 1) := by decide +kernel
theorem dX10_manHere_8 : decode cX10_manHere 8 = .ok (.iconst 1, 1) := by decide +kernel
theorem dX10_manHere_9 : decode cX10_manHere 9 = .ok (.isub, 1) := by decide +kernel
theorem dX10_manHere_10 : decode cX10_manHere 10 = .ok (.invokevirtual 202, 3) := by decide +kernel
theorem dX10_manHere_13 : decode cX10_manHere 13 = .ok (.ireturn, 1) := by decide +kernel
def fX10_manHere (x0 : Nat) (v : zV) : Option (Int32 × zV) :=
  zix (1 : Int32) (zlen (zrf x0 11)) <|
  zbind (fX10_number x0 (0 : Int32) ((v (zrf x0 11) ((1 : Int32)).toNatClampNeg) - (1 : Int32)) v) fun r_2 v_1 =>
  some (r_2, v_1)
set_option maxRecDepth 4000 in
theorem kX10_manHere (l : Launch) (G : zG) (x0 : Nat) (t0 : zty G x0 1 10) (v : zV) (r : Int32) (w : zV) (h : fX10_manHere x0 v = some (r, w)) : zMet l yX10_manHere cX10_manHere 1 (Option.some FieldType.int) 4 145 0 0 [zr G x0] G v (some (.int r)) w := by
  refine zM_of (own := RX10) (by decide) rfl (Nat.le_of_ble_eq_true rfl) (fun x hl F hr hk hcs => ?_)
  subst hl
  refine z_ls [(0, zr G x0)] [0] rfl ?_
  unfold fX10_manHere at h
  refine z_aload_n F dX10_manHere_0 rfl 0 rfl ?_
  refine z_iconst (y := (0 : Int32)) F dX10_manHere_1 rfl ?_
  refine z_aload_n F dX10_manHere_2 rfl 0 rfl ?_
  refine zg_10_11 F t0 wF_X10_20 dX10_manHere_3 ?_
  refine z_iconst (y := (1 : Int32)) F dX10_manHere_6 rfl ?_
  obtain ⟨hi7, h⟩ := zix_ex h
  refine z_iald F (zt_f tc_10_11 t0) dX10_manHere_7 hi7 ?_
  refine z_iconst (y := (1 : Int32)) F dX10_manHere_8 rfl ?_
  refine z_isub F dX10_manHere_9 ?_
  obtain ⟨r_2, v_1, hq10, h⟩ := zbind_ex h
  refine z_callVi F [.int (0 : Int32), .int ((v (zrf x0 11) ((1 : Int32)).toNatClampNeg) - (1 : Int32))] [] (kX10_number x.2.1 G x0 t0 (0 : Int32) ((v (zrf x0 11) ((1 : Int32)).toNatClampNeg) - (1 : Int32)) v r_2 v_1 hq10) mI_X10_number (c := 10) rfl t0 wM_X10_202 mi_X10_number sl_X10_number dX10_manHere_10 rfl ⟨Nat.le_of_ble_eq_true rfl, Nat.le_of_ble_eq_true rfl⟩ rfl (Nat.le_of_ble_eq_true rfl) ⟨Nat.zero_le _, Nat.zero_le _⟩ ?_
  cases h
  exact z_reti F hr hk dX10_manHere_13

theorem dX10_clause_0 : decode cX10_clause 0 = .ok (.aload_n 0, 1) := by decide +kernel
theorem dX10_clause_1 : decode cX10_clause 1 = .ok (.invokevirtual 206, 3) := by decide +kernel
theorem dX10_clause_4 : decode cX10_clause 4 = .ok (.istore_n 1, 1) := by decide +kernel
theorem dX10_clause_5 : decode cX10_clause 5 = .ok (.iload_n 1, 1) := by decide +kernel
theorem dX10_clause_6 : decode cX10_clause 6 = .ok (.iconst (-1), 1) := by decide +kernel
theorem dX10_clause_7 : decode cX10_clause 7 = .ok (.if_icmp .ne 15, 3) := by decide +kernel
theorem dX10_clause_10 : decode cX10_clause 10 = .ok (.aload_n 0, 1) := by decide +kernel
theorem dX10_clause_11 : decode cX10_clause 11 = .ok (.iconst 1, 1) := by decide +kernel
theorem dX10_clause_12 : decode cX10_clause 12 = .ok (.aload_n 0, 1) := by decide +kernel
theorem dX10_clause_13 : decode cX10_clause 13 = .ok (.getfield 143, 3) := by decide +kernel
theorem dX10_clause_16 : decode cX10_clause 16 = .ok (.invokevirtual 163, 3) := by decide +kernel
theorem dX10_clause_19 : decode cX10_clause 19 = .ok (.goto 75, 3) := by decide +kernel
theorem dX10_clause_22 : decode cX10_clause 22 = .ok (.aload_n 0, 1) := by decide +kernel
theorem dX10_clause_23 : decode cX10_clause 23 = .ok (.getfield 196, 3) := by decide +kernel
theorem dX10_clause_26 : decode cX10_clause 26 = .ok (.bipush 60, 2) := by decide +kernel
theorem dX10_clause_28 : decode cX10_clause 28 = .ok (.if_icmp .eq 11, 3) := by decide +kernel
theorem dX10_clause_31 : decode cX10_clause 31 = .ok (.aload_n 0, 1) := by decide +kernel
theorem dX10_clause_32 : decode cX10_clause 32 = .ok (.iload_n 1, 1) := by decide +kernel
theorem dX10_clause_33 : decode cX10_clause 33 = .ok (.invokevirtual 210, 3) := by decide +kernel
theorem dX10_clause_36 : decode cX10_clause 36 = .ok (.ifCond .eq 15, 3) := by decide +kernel
theorem dX10_clause_39 : decode cX10_clause 39 = .ok (.aload_n 0, 1) := by decide +kernel
theorem dX10_clause_40 : decode cX10_clause 40 = .ok (.iconst 3, 1) := by decide +kernel
theorem dX10_clause_41 : decode cX10_clause 41 = .ok (.aload_n 0, 1) := by decide +kernel
theorem dX10_clause_42 : decode cX10_clause 42 = .ok (.getfield 143, 3) := by decide +kernel
theorem dX10_clause_45 : decode cX10_clause 45 = .ok (.invokevirtual 163, 3) := by decide +kernel
theorem dX10_clause_48 : decode cX10_clause 48 = .ok (.goto 46, 3) := by decide +kernel
theorem dX10_clause_51 : decode cX10_clause 51 = .ok (.iload_n 1, 1) := by decide +kernel
theorem dX10_clause_52 : decode cX10_clause 52 = .ok (.ifCond .ne 12, 3) := by decide +kernel
theorem dX10_clause_55 : decode cX10_clause 55 = .ok (.aload_n 0, 1) := by decide +kernel
theorem dX10_clause_56 : decode cX10_clause 56 = .ok (.getfield 20, 3) := by decide +kernel
theorem dX10_clause_59 : decode cX10_clause 59 = .ok (.iconst 1, 1) := by decide +kernel
theorem dX10_clause_60 : decode cX10_clause 60 = .ok (.iaload, 1) := by decide +kernel
theorem dX10_clause_61 : decode cX10_clause 61 = .ok (.ifCond .gt 24, 3) := by decide +kernel
theorem dX10_clause_64 : decode cX10_clause 64 = .ok (.iload_n 1, 1) := by decide +kernel
theorem dX10_clause_65 : decode cX10_clause 65 = .ok (.iconst 2, 1) := by decide +kernel
theorem dX10_clause_66 : decode cX10_clause 66 = .ok (.if_icmp .ne 28, 3) := by decide +kernel
theorem dX10_clause_69 : decode cX10_clause 69 = .ok (.aload_n 0, 1) := by decide +kernel
theorem dX10_clause_70 : decode cX10_clause 70 = .ok (.getfield 130, 3) := by decide +kernel
theorem dX10_clause_73 : decode cX10_clause 73 = .ok (.ifCond .ne 12, 3) := by decide +kernel
theorem dX10_clause_76 : decode cX10_clause 76 = .ok (.aload_n 0, 1) := by decide +kernel
theorem dX10_clause_77 : decode cX10_clause 77 = .ok (.getfield 20, 3) := by decide +kernel
theorem dX10_clause_80 : decode cX10_clause 80 = .ok (.iconst 3, 1) := by decide +kernel
theorem dX10_clause_81 : decode cX10_clause 81 = .ok (.iaload, 1) := by decide +kernel
theorem dX10_clause_82 : decode cX10_clause 82 = .ok (.ifCond .le 12, 3) := by decide +kernel
theorem dX10_clause_85 : decode cX10_clause 85 = .ok (.aload_n 0, 1) := by decide +kernel
theorem dX10_clause_86 : decode cX10_clause 86 = .ok (.iconst 4, 1) := by decide +kernel
theorem dX10_clause_87 : decode cX10_clause 87 = .ok (.aload_n 0, 1) := by decide +kernel
theorem dX10_clause_88 : decode cX10_clause 88 = .ok (.getfield 143, 3) := by decide +kernel
theorem dX10_clause_91 : decode cX10_clause 91 = .ok (.invokevirtual 163, 3) := by decide +kernel
theorem dX10_clause_94 : decode cX10_clause 94 = .ok (.aload_n 0, 1) := by decide +kernel
theorem dX10_clause_95 : decode cX10_clause 95 = .ok (.getfield 150, 3) := by decide +kernel
theorem dX10_clause_98 : decode cX10_clause 98 = .ok (.ifCond .eq 4, 3) := by decide +kernel
theorem dX10_clause_101 : decode cX10_clause 101 = .ok (.return_, 1) := by decide +kernel
theorem dX10_clause_102 : decode cX10_clause 102 = .ok (.aload_n 0, 1) := by decide +kernel
theorem dX10_clause_103 : decode cX10_clause 103 = .ok (.invokevirtual 193, 3) := by decide +kernel
theorem dX10_clause_106 : decode cX10_clause 106 = .ok (.aload_n 0, 1) := by decide +kernel
theorem dX10_clause_107 : decode cX10_clause 107 = .ok (.dup, 1) := by decide +kernel
theorem dX10_clause_108 : decode cX10_clause 108 = .ok (.getfield 196, 3) := by decide +kernel
theorem dX10_clause_111 : decode cX10_clause 111 = .ok (.iconst 1, 1) := by decide +kernel
theorem dX10_clause_112 : decode cX10_clause 112 = .ok (.iadd, 1) := by decide +kernel
theorem dX10_clause_113 : decode cX10_clause 113 = .ok (.putfield 196, 3) := by decide +kernel
theorem dX10_clause_116 : decode cX10_clause 116 = .ok (.iload_n 1, 1) := by decide +kernel
theorem dX10_clause_117 : decode cX10_clause 117 = .ok (.tableswitch 256 0 4 #[35, 55, 120, 141, 224], 35) := by decide +kernel
theorem dX10_clause_152 : decode cX10_clause 152 = .ok (.aload_n 0, 1) := by decide +kernel
theorem dX10_clause_153 : decode cX10_clause 153 = .ok (.getfield 26, 3) := by decide +kernel
theorem dX10_clause_156 : decode cX10_clause 156 = .ok (.aload_n 0, 1) := by decide +kernel
theorem dX10_clause_157 : decode cX10_clause 157 = .ok (.getfield 20, 3) := by decide +kernel
theorem dX10_clause_160 : decode cX10_clause 160 = .ok (.iconst 0, 1) := by decide +kernel
theorem dX10_clause_161 : decode cX10_clause 161 = .ok (.iaload, 1) := by decide +kernel
theorem dX10_clause_162 : decode cX10_clause 162 = .ok (.aload_n 0, 1) := by decide +kernel
theorem dX10_clause_163 : decode cX10_clause 163 = .ok (.iconst 2, 1) := by decide +kernel
theorem dX10_clause_164 : decode cX10_clause 164 = .ok (.iconst 3, 1) := by decide +kernel
theorem dX10_clause_165 : decode cX10_clause 165 = .ok (.invokevirtual 202, 3) := by decide +kernel
theorem dX10_clause_168 : decode cX10_clause 168 = .ok (.iastore, 1) := by decide +kernel
theorem dX10_clause_169 : decode cX10_clause 169 = .ok (.goto 246, 3) := by decide +kernel
theorem dX10_clause_172 : decode cX10_clause 172 = .ok (.aload_n 0, 1) := by decide +kernel
theorem dX10_clause_173 : decode cX10_clause 173 = .ok (.getfield 32, 3) := by decide +kernel
theorem dX10_clause_176 : decode cX10_clause 176 = .ok (.aload_n 0, 1) := by decide +kernel
theorem dX10_clause_177 : decode cX10_clause 177 = .ok (.getfield 20, 3) := by decide +kernel
theorem dX10_clause_180 : decode cX10_clause 180 = .ok (.iconst 1, 1) := by decide +kernel
theorem dX10_clause_181 : decode cX10_clause 181 = .ok (.iaload, 1) := by decide +kernel
theorem dX10_clause_182 : decode cX10_clause 182 = .ok (.aload_n 0, 1) := by decide +kernel
theorem dX10_clause_183 : decode cX10_clause 183 = .ok (.iconst 0, 1) := by decide +kernel
theorem dX10_clause_184 : decode cX10_clause 184 = .ok (.bipush 99, 2) := by decide +kernel
theorem dX10_clause_186 : decode cX10_clause 186 = .ok (.invokevirtual 202, 3) := by decide +kernel
theorem dX10_clause_189 : decode cX10_clause 189 = .ok (.iastore, 1) := by decide +kernel
theorem dX10_clause_190 : decode cX10_clause 190 = .ok (.iconst 0, 1) := by decide +kernel
theorem dX10_clause_191 : decode cX10_clause 191 = .ok (.istore_n 2, 1) := by decide +kernel
theorem dX10_clause_192 : decode cX10_clause 192 = .ok (.iload_n 2, 1) := by decide +kernel
theorem dX10_clause_193 : decode cX10_clause 193 = .ok (.aload_n 0, 1) := by decide +kernel
theorem dX10_clause_194 : decode cX10_clause 194 = .ok (.getfield 20, 3) := by decide +kernel
theorem dX10_clause_197 : decode cX10_clause 197 = .ok (.iconst 0, 1) := by decide +kernel
theorem dX10_clause_198 : decode cX10_clause 198 = .ok (.iaload, 1) := by decide +kernel
theorem dX10_clause_199 : decode cX10_clause 199 = .ok (.if_icmp .ge 35, 3) := by decide +kernel
theorem dX10_clause_202 : decode cX10_clause 202 = .ok (.aload_n 0, 1) := by decide +kernel
theorem dX10_clause_203 : decode cX10_clause 203 = .ok (.getfield 46, 3) := by decide +kernel
theorem dX10_clause_206 : decode cX10_clause 206 = .ok (.aload_n 0, 1) := by decide +kernel
theorem dX10_clause_207 : decode cX10_clause 207 = .ok (.getfield 20, 3) := by decide +kernel
theorem dX10_clause_210 : decode cX10_clause 210 = .ok (.iconst 1, 1) := by decide +kernel
theorem dX10_clause_211 : decode cX10_clause 211 = .ok (.iaload, 1) := by decide +kernel
theorem dX10_clause_212 : decode cX10_clause 212 = .ok (.aaload, 1) := by decide +kernel
theorem dX10_clause_213 : decode cX10_clause 213 = .ok (.iload_n 2, 1) := by decide +kernel
theorem dX10_clause_214 : decode cX10_clause 214 = .ok (.aload_n 0, 1) := by decide +kernel
theorem dX10_clause_215 : decode cX10_clause 215 = .ok (.iconst 0, 1) := by decide +kernel
theorem dX10_clause_216 : decode cX10_clause 216 = .ok (.aload_n 0, 1) := by decide +kernel
theorem dX10_clause_217 : decode cX10_clause 217 = .ok (.getfield 26, 3) := by decide +kernel
theorem dX10_clause_220 : decode cX10_clause 220 = .ok (.iload_n 2, 1) := by decide +kernel
theorem dX10_clause_221 : decode cX10_clause 221 = .ok (.iaload, 1) := by decide +kernel
theorem dX10_clause_222 : decode cX10_clause 222 = .ok (.iconst 1, 1) := by decide +kernel
theorem dX10_clause_223 : decode cX10_clause 223 = .ok (.isub, 1) := by decide +kernel
theorem dX10_clause_224 : decode cX10_clause 224 = .ok (.invokevirtual 202, 3) := by decide +kernel
theorem dX10_clause_227 : decode cX10_clause 227 = .ok (.iastore, 1) := by decide +kernel
theorem dX10_clause_228 : decode cX10_clause 228 = .ok (.iinc 2 1, 3) := by decide +kernel
theorem dX10_clause_231 : decode cX10_clause 231 = .ok (.goto (-39), 3) := by decide +kernel
theorem dX10_clause_234 : decode cX10_clause 234 = .ok (.goto 181, 3) := by decide +kernel
theorem dX10_clause_237 : decode cX10_clause 237 = .ok (.aload_n 0, 1) := by decide +kernel
theorem dX10_clause_238 : decode cX10_clause 238 = .ok (.getfield 20, 3) := by decide +kernel
theorem dX10_clause_241 : decode cX10_clause 241 = .ok (.iconst 2, 1) := by decide +kernel
theorem dX10_clause_242 : decode cX10_clause 242 = .ok (.aload_n 0, 1) := by decide +kernel
theorem dX10_clause_243 : decode cX10_clause 243 = .ok (.iconst 2, 1) := by decide +kernel
theorem dX10_clause_244 : decode cX10_clause 244 = .ok (.bipush 12, 2) := by decide +kernel
theorem dX10_clause_246 : decode cX10_clause 246 = .ok (.invokevirtual 202, 3) := by decide +kernel
theorem dX10_clause_249 : decode cX10_clause 249 = .ok (.iastore, 1) := by decide +kernel
theorem dX10_clause_250 : decode cX10_clause 250 = .ok (.aload_n 0, 1) := by decide +kernel
theorem dX10_clause_251 : decode cX10_clause 251 = .ok (.iconst 1, 1) := by decide +kernel
theorem dX10_clause_252 : decode cX10_clause 252 = .ok (.putfield 130, 3) := by decide +kernel
theorem dX10_clause_255 : decode cX10_clause 255 = .ok (.goto 160, 3) := by decide +kernel
theorem dX10_clause_258 : decode cX10_clause 258 = .ok (.aload_n 0, 1) := by decide +kernel
theorem dX10_clause_259 : decode cX10_clause 259 = .ok (.getfield 150, 3) := by decide +kernel
theorem dX10_clause_262 : decode cX10_clause 262 = .ok (.ifCond .eq 6, 3) := by decide +kernel
theorem dX10_clause_265 : decode cX10_clause 265 = .ok (.goto 150, 3) := by decide +kernel
theorem dX10_clause_268 : decode cX10_clause 268 = .ok (.aload_n 0, 1) := by decide +kernel
theorem dX10_clause_269 : decode cX10_clause 269 = .ok (.invokevirtual 156, 3) := by decide +kernel
theorem dX10_clause_272 : decode cX10_clause 272 = .ok (.aload_n 0, 1) := by decide +kernel
theorem dX10_clause_273 : decode cX10_clause 273 = .ok (.getfield 143, 3) := by decide +kernel
theorem dX10_clause_276 : decode cX10_clause 276 = .ok (.istore_n 2, 1) := by decide +kernel
theorem dX10_clause_277 : decode cX10_clause 277 = .ok (.aload_n 0, 1) := by decide +kernel
theorem dX10_clause_278 : decode cX10_clause 278 = .ok (.invokevirtual 213, 3) := by decide +kernel
theorem dX10_clause_281 : decode cX10_clause 281 = .ok (.istore_n 3, 1) := by decide +kernel
theorem dX10_clause_282 : decode cX10_clause 282 = .ok (.iconst 0, 1) := by decide +kernel
theorem dX10_clause_283 : decode cX10_clause 283 = .ok (.istore 4, 2) := by decide +kernel
theorem dX10_clause_285 : decode cX10_clause 285 = .ok (.iload 4, 2) := by decide +kernel
theorem dX10_clause_287 : decode cX10_clause 287 = .ok (.aload_n 0, 1) := by decide +kernel
theorem dX10_clause_288 : decode cX10_clause 288 = .ok (.getfield 20, 3) := by decide +kernel
theorem dX10_clause_291 : decode cX10_clause 291 = .ok (.iconst 3, 1) := by decide +kernel
theorem dX10_clause_292 : decode cX10_clause 292 = .ok (.iaload, 1) := by decide +kernel
theorem dX10_clause_293 : decode cX10_clause 293 = .ok (.if_icmp .ge 33, 3) := by decide +kernel
theorem dX10_clause_296 : decode cX10_clause 296 = .ok (.aload_n 0, 1) := by decide +kernel
theorem dX10_clause_297 : decode cX10_clause 297 = .ok (.getfield 150, 3) := by decide +kernel
theorem dX10_clause_300 : decode cX10_clause 300 = .ok (.ifCond .ne 20, 3) := by decide +kernel
theorem dX10_clause_303 : decode cX10_clause 303 = .ok (.aload_n 0, 1) := by decide +kernel
theorem dX10_clause_304 : decode cX10_clause 304 = .ok (.getfield 38, 3) := by decide +kernel
theorem dX10_clause_307 : decode cX10_clause 307 = .ok (.iload 4, 2) := by decide +kernel
theorem dX10_clause_309 : decode cX10_clause 309 = .ok (.iaload, 1) := by decide +kernel
theorem dX10_clause_310 : decode cX10_clause 310 = .ok (.iload_n 3, 1) := by decide +kernel
theorem dX10_clause_311 : decode cX10_clause 311 = .ok (.if_icmp .ne 9, 3) := by decide +kernel
theorem dX10_clause_314 : decode cX10_clause 314 = .ok (.aload_n 0, 1) := by decide +kernel
theorem dX10_clause_315 : decode cX10_clause 315 = .ok (.iconst 2, 1) := by decide +kernel
theorem dX10_clause_316 : decode cX10_clause 316 = .ok (.iload_n 2, 1) := by decide +kernel
theorem dX10_clause_317 : decode cX10_clause 317 = .ok (.invokevirtual 163, 3) := by decide +kernel
theorem dX10_clause_320 : decode cX10_clause 320 = .ok (.iinc 4 1, 3) := by decide +kernel
theorem dX10_clause_323 : decode cX10_clause 323 = .ok (.goto (-38), 3) := by decide +kernel
theorem dX10_clause_326 : decode cX10_clause 326 = .ok (.aload_n 0, 1) := by decide +kernel
theorem dX10_clause_327 : decode cX10_clause 327 = .ok (.getfield 38, 3) := by decide +kernel
theorem dX10_clause_330 : decode cX10_clause 330 = .ok (.aload_n 0, 1) := by decide +kernel
theorem dX10_clause_331 : decode cX10_clause 331 = .ok (.getfield 20, 3) := by decide +kernel
theorem dX10_clause_334 : decode cX10_clause 334 = .ok (.iconst 3, 1) := by decide +kernel
theorem dX10_clause_335 : decode cX10_clause 335 = .ok (.iaload, 1) := by decide +kernel
theorem dX10_clause_336 : decode cX10_clause 336 = .ok (.iload_n 3, 1) := by decide +kernel
theorem dX10_clause_337 : decode cX10_clause 337 = .ok (.iastore, 1) := by decide +kernel
theorem dX10_clause_338 : decode cX10_clause 338 = .ok (.goto 77, 3) := by decide +kernel
theorem dX10_clause_341 : decode cX10_clause 341 = .ok (.aload_n 0, 1) := by decide +kernel
theorem dX10_clause_342 : decode cX10_clause 342 = .ok (.getfield 52, 3) := by decide +kernel
theorem dX10_clause_345 : decode cX10_clause 345 = .ok (.aload_n 0, 1) := by decide +kernel
theorem dX10_clause_346 : decode cX10_clause 346 = .ok (.getfield 20, 3) := by decide +kernel
theorem dX10_clause_349 : decode cX10_clause 349 = .ok (.iconst 4, 1) := by decide +kernel
theorem dX10_clause_350 : decode cX10_clause 350 = .ok (.iaload, 1) := by decide +kernel
theorem dX10_clause_351 : decode cX10_clause 351 = .ok (.aaload, 1) := by decide +kernel
theorem dX10_clause_352 : decode cX10_clause 352 = .ok (.astore_n 2, 1) := by decide +kernel
theorem dX10_clause_353 : decode cX10_clause 353 = .ok (.aload_n 2, 1) := by decide +kernel
theorem dX10_clause_354 : decode cX10_clause 354 = .ok (.iconst 0, 1) := by decide +kernel
theorem dX10_clause_355 : decode cX10_clause 355 = .ok (.aload_n 0, 1) := by decide +kernel
theorem dX10_clause_356 : decode cX10_clause 356 = .ok (.iconst 1, 1) := by decide +kernel
theorem dX10_clause_357 : decode cX10_clause 357 = .ok (.bipush 60, 2) := by decide +kernel
theorem dX10_clause_359 : decode cX10_clause 359 = .ok (.invokevirtual 202, 3) := by decide +kernel
theorem dX10_clause_362 : decode cX10_clause 362 = .ok (.iastore, 1) := by decide +kernel
theorem dX10_clause_363 : decode cX10_clause 363 = .ok (.aload_n 2, 1) := by decide +kernel
theorem dX10_clause_364 : decode cX10_clause 364 = .ok (.iconst 1, 1) := by decide +kernel
theorem dX10_clause_365 : decode cX10_clause 365 = .ok (.aload_n 0, 1) := by decide +kernel
theorem dX10_clause_366 : decode cX10_clause 366 = .ok (.invokevirtual 213, 3) := by decide +kernel
theorem dX10_clause_369 : decode cX10_clause 369 = .ok (.iastore, 1) := by decide +kernel
theorem dX10_clause_370 : decode cX10_clause 370 = .ok (.goto 45, 3) := by decide +kernel
theorem dX10_clause_373 : decode cX10_clause 373 = .ok (.aload_n 0, 1) := by decide +kernel
theorem dX10_clause_374 : decode cX10_clause 374 = .ok (.getfield 58, 3) := by decide +kernel
theorem dX10_clause_377 : decode cX10_clause 377 = .ok (.aload_n 0, 1) := by decide +kernel
theorem dX10_clause_378 : decode cX10_clause 378 = .ok (.getfield 20, 3) := by decide +kernel
theorem dX10_clause_381 : decode cX10_clause 381 = .ok (.iconst 5, 1) := by decide +kernel
theorem dX10_clause_382 : decode cX10_clause 382 = .ok (.iaload, 1) := by decide +kernel
theorem dX10_clause_383 : decode cX10_clause 383 = .ok (.aaload, 1) := by decide +kernel
theorem dX10_clause_384 : decode cX10_clause 384 = .ok (.astore_n 2, 1) := by decide +kernel
theorem dX10_clause_385 : decode cX10_clause 385 = .ok (.aload_n 2, 1) := by decide +kernel
theorem dX10_clause_386 : decode cX10_clause 386 = .ok (.iconst 0, 1) := by decide +kernel
theorem dX10_clause_387 : decode cX10_clause 387 = .ok (.aload_n 0, 1) := by decide +kernel
theorem dX10_clause_388 : decode cX10_clause 388 = .ok (.iconst 1, 1) := by decide +kernel
theorem dX10_clause_389 : decode cX10_clause 389 = .ok (.bipush 60, 2) := by decide +kernel
theorem dX10_clause_391 : decode cX10_clause 391 = .ok (.invokevirtual 202, 3) := by decide +kernel
theorem dX10_clause_394 : decode cX10_clause 394 = .ok (.iastore, 1) := by decide +kernel
theorem dX10_clause_395 : decode cX10_clause 395 = .ok (.aload_n 2, 1) := by decide +kernel
theorem dX10_clause_396 : decode cX10_clause 396 = .ok (.iconst 1, 1) := by decide +kernel
theorem dX10_clause_397 : decode cX10_clause 397 = .ok (.aload_n 0, 1) := by decide +kernel
theorem dX10_clause_398 : decode cX10_clause 398 = .ok (.invokevirtual 213, 3) := by decide +kernel
theorem dX10_clause_401 : decode cX10_clause 401 = .ok (.iastore, 1) := by decide +kernel
theorem dX10_clause_402 : decode cX10_clause 402 = .ok (.aload_n 2, 1) := by decide +kernel
theorem dX10_clause_403 : decode cX10_clause 403 = .ok (.iconst 2, 1) := by decide +kernel
theorem dX10_clause_404 : decode cX10_clause 404 = .ok (.aload_n 0, 1) := by decide +kernel
theorem dX10_clause_405 : decode cX10_clause 405 = .ok (.iconst 1, 1) := by decide +kernel
theorem dX10_clause_406 : decode cX10_clause 406 = .ok (.bipush 99, 2) := by decide +kernel
theorem dX10_clause_408 : decode cX10_clause 408 = .ok (.invokevirtual 202, 3) := by decide +kernel
theorem dX10_clause_411 : decode cX10_clause 411 = .ok (.iastore, 1) := by decide +kernel
theorem dX10_clause_412 : decode cX10_clause 412 = .ok (.goto 3, 3) := by decide +kernel
theorem dX10_clause_415 : decode cX10_clause 415 = .ok (.iload_n 1, 1) := by decide +kernel
theorem dX10_clause_416 : decode cX10_clause 416 = .ok (.iconst 2, 1) := by decide +kernel
theorem dX10_clause_417 : decode cX10_clause 417 = .ok (.if_icmp .eq 24, 3) := by decide +kernel
theorem dX10_clause_420 : decode cX10_clause 420 = .ok (.aload_n 0, 1) := by decide +kernel
theorem dX10_clause_421 : decode cX10_clause 421 = .ok (.getfield 20, 3) := by decide +kernel
theorem dX10_clause_424 : decode cX10_clause 424 = .ok (.iload_n 1, 1) := by decide +kernel
theorem dX10_clause_425 : decode cX10_clause 425 = .ok (.dup2, 1) := by decide +kernel
theorem dX10_clause_426 : decode cX10_clause 426 = .ok (.iaload, 1) := by decide +kernel
theorem dX10_clause_427 : decode cX10_clause 427 = .ok (.aload_n 0, 1) := by decide +kernel
theorem dX10_clause_428 : decode cX10_clause 428 = .ok (.getfield 150, 3) := by decide +kernel
theorem dX10_clause_431 : decode cX10_clause 431 = .ok (.ifCond .ne 7, 3) := by decide +kernel
theorem dX10_clause_434 : decode cX10_clause 434 = .ok (.iconst 1, 1) := by decide +kernel
theorem dX10_clause_435 : decode cX10_clause 435 = .ok (.goto 4, 3) := by decide +kernel
theorem dX10_clause_438 : decode cX10_clause 438 = .ok (.iconst 0, 1) := by decide +kernel
theorem dX10_clause_439 : decode cX10_clause 439 = .ok (.iadd, 1) := by decide +kernel
theorem dX10_clause_440 : decode cX10_clause 440 = .ok (.iastore, 1) := by decide +kernel
theorem dX10_clause_441 : decode cX10_clause 441 = .ok (.aload_n 0, 1) := by decide +kernel
theorem dX10_clause_442 : decode cX10_clause 442 = .ok (.bipush 59, 2) := by decide +kernel
theorem dX10_clause_444 : decode cX10_clause 444 = .ok (.invokevirtual 216, 3) := by decide +kernel
theorem dX10_clause_447 : decode cX10_clause 447 = .ok (.return_, 1) := by decide +kernel
def fX10_clause_415  (x0 : Nat) (x1 : Int32) (v : zV) : Option zV :=
  if x1 = (2 : Int32) then
    zbindv (fX10_sign x0 (59 : Int32) v) fun v_1 =>
    some v_1
  else
    zix x1 (zlen (zrf x0 11)) <|
    if (v x0 5) = (0 : Int32) then
      zix x1 (zlen (zrf x0 11)) <|
      zlet (zup v (zrf x0 11) (x1).toNatClampNeg ((v (zrf x0 11) (x1).toNatClampNeg) + (1 : Int32))) fun v_4 =>
      zbindv (fX10_sign x0 (59 : Int32) v_4) fun v_5 =>
      some v_5
    else
      zix x1 (zlen (zrf x0 11)) <|
      zlet (zup v (zrf x0 11) (x1).toNatClampNeg ((v (zrf x0 11) (x1).toNatClampNeg) + (0 : Int32))) fun v_2 =>
      zbindv (fX10_sign x0 (59 : Int32) v_2) fun v_3 =>
      some v_3
set_option maxRecDepth 4000 in
theorem jX10_clause_415 (x : zCx) (G : zG) (F : zF x G cX10_clause 5 RX10 6 192) (hr : x.2.2.2.2.2.2.2.2.1.sig.returnType = (Option.none : Option FieldType)) (hk : x.2.2.2.2.2.2.2.2.1.locks = false) (w : zV)  : ∀ (x0 : Nat) (t0 : zty G x0 1 10) (x1 : Int32) (v : zV), fX10_clause_415 x0 x1 v = some w → zJ x G 5 (zQ x G none w 0 0) 0 0 415 [(0, zr G x0), (1, .int x1)] [] v := by
  intro x0 t0 x1 v h
  unfold fX10_clause_415 at h
  refine z_iload_n F dX10_clause_415 rfl 1 rfl ?_
  refine z_iconst (y := (2 : Int32)) F dX10_clause_416 rfl ?_
  refine z_icmp_eq F 441 dX10_clause_417 rfl (fun hc => ?_) (fun hc => ?_)
  · replace h := zif_t hc h
    refine z_aload_n F dX10_clause_441 rfl 0 rfl ?_
    refine z_bipush (y := (59 : Int32)) F dX10_clause_442 rfl ?_
    obtain ⟨v_1, hq444, h⟩ := zbindv_ex h
    refine z_callVv F [.int (59 : Int32)] [] (kX10_sign x.2.1 G x0 t0 (59 : Int32) v v_1 hq444) mI_X10_sign (c := 10) rfl t0 wM_X10_216 mi_X10_sign sl_X10_sign dX10_clause_444 rfl ⟨Nat.le_of_ble_eq_true rfl, Nat.le_of_ble_eq_true rfl⟩ rfl (Nat.le_of_ble_eq_true rfl) ⟨Nat.zero_le _, Nat.zero_le _⟩ ?_
    cases h
    exact z_retv F hr hk dX10_clause_447
  · replace h := zif_f hc h
    refine z_aload_n F dX10_clause_420 rfl 0 rfl ?_
    refine zg_10_11 F t0 wF_X10_20 dX10_clause_421 ?_
    refine z_iload_n F dX10_clause_424 rfl 1 rfl ?_
    refine z_dup2 F dX10_clause_425 rfl rfl ?_
    obtain ⟨hi426, h⟩ := zix_ex h
    refine z_iald F (zt_f tc_10_11 t0) dX10_clause_426 hi426 ?_
    refine z_aload_n F dX10_clause_427 rfl 0 rfl ?_
    refine zg_10_5 F t0 wF_X10_150 dX10_clause_428 ?_
    refine z_if_ne F 438 dX10_clause_431 rfl (fun hc => ?_) (fun hc => ?_)
    · replace h := zif_f hc h
      refine z_iconst (y := (0 : Int32)) F dX10_clause_438 rfl ?_
      refine z_iadd F dX10_clause_439 ?_
      obtain ⟨hi440, h⟩ := zix_ex h
      refine z_iast F (zt_f tc_10_11 t0) dX10_clause_440 hi440 ?_
      obtain ⟨v_2, ev_2, h⟩ := zlet_ex h
      refine z_heap ev_2 ?_
      refine z_aload_n F dX10_clause_441 rfl 0 rfl ?_
      refine z_bipush (y := (59 : Int32)) F dX10_clause_442 rfl ?_
      obtain ⟨v_3, hq444, h⟩ := zbindv_ex h
      refine z_callVv F [.int (59 : Int32)] [] (kX10_sign x.2.1 G x0 t0 (59 : Int32) v_2 v_3 hq444) mI_X10_sign (c := 10) rfl t0 wM_X10_216 mi_X10_sign sl_X10_sign dX10_clause_444 rfl ⟨Nat.le_of_ble_eq_true rfl, Nat.le_of_ble_eq_true rfl⟩ rfl (Nat.le_of_ble_eq_true rfl) ⟨Nat.zero_le _, Nat.zero_le _⟩ ?_
      cases h
      exact z_retv F hr hk dX10_clause_447
    · replace h := zif_t hc h
      refine z_iconst (y := (1 : Int32)) F dX10_clause_434 rfl ?_
      refine z_goto F 439 dX10_clause_435 rfl ?_
      refine z_iadd F dX10_clause_439 ?_
      obtain ⟨hi440, h⟩ := zix_ex h
      refine z_iast F (zt_f tc_10_11 t0) dX10_clause_440 hi440 ?_
      obtain ⟨v_4, ev_4, h⟩ := zlet_ex h
      refine z_heap ev_4 ?_
      refine z_aload_n F dX10_clause_441 rfl 0 rfl ?_
      refine z_bipush (y := (59 : Int32)) F dX10_clause_442 rfl ?_
      obtain ⟨v_5, hq444, h⟩ := zbindv_ex h
      refine z_callVv F [.int (59 : Int32)] [] (kX10_sign x.2.1 G x0 t0 (59 : Int32) v_4 v_5 hq444) mI_X10_sign (c := 10) rfl t0 wM_X10_216 mi_X10_sign sl_X10_sign dX10_clause_444 rfl ⟨Nat.le_of_ble_eq_true rfl, Nat.le_of_ble_eq_true rfl⟩ rfl (Nat.le_of_ble_eq_true rfl) ⟨Nat.zero_le _, Nat.zero_le _⟩ ?_
      cases h
      exact z_retv F hr hk dX10_clause_447

def fX10_clause_192  : Nat → Nat → Int32 → Int32 → zV → Option zV
  | 0 => fun _ _ _ _ => none
  | n + 1 => fun x0 x1 x2 v =>
    zix (0 : Int32) (zlen (zrf x0 11)) <|
    if (v (zrf x0 11) ((0 : Int32)).toNatClampNeg) ≤ x2 then
      fX10_clause_415  x0 x1 v
    else
      zix (1 : Int32) (zlen (zrf x0 11)) <|
      zix (v (zrf x0 11) ((1 : Int32)).toNatClampNeg) (zlen (zrf x0 19)) <|
      zix x2 (zlen (zrf x0 13)) <|
      zbind (fX10_number x0 (0 : Int32) ((v (zrf x0 13) (x2).toNatClampNeg) - (1 : Int32)) v) fun r_2 v_1 =>
      zix x2 (zlen (zrf (zrf x0 19) (v (zrf x0 11) ((1 : Int32)).toNatClampNeg).toNatClampNeg)) <|
      zlet (zup v_1 (zrf (zrf x0 19) (v (zrf x0 11) ((1 : Int32)).toNatClampNeg).toNatClampNeg) (x2).toNatClampNeg r_2) fun v_3 =>
      (fX10_clause_192 n) x0 x1 (x2 + (1 : Int32)) v_3
set_option maxRecDepth 4000 in
theorem jX10_clause_192 (x : zCx) (G : zG) (F : zF x G cX10_clause 5 RX10 6 192) (hr : x.2.2.2.2.2.2.2.2.1.sig.returnType = (Option.none : Option FieldType)) (hk : x.2.2.2.2.2.2.2.2.1.locks = false) (w : zV)  : ∀ (n : Nat) (x0 : Nat) (t0 : zty G x0 1 10) (x1 : Int32) (x2 : Int32) (v : zV), fX10_clause_192 n x0 x1 x2 v = some w → zJ x G 5 (zQ x G none w 0 0) 0 0 192 [(0, zr G x0), (1, .int x1), (2, .int x2)] [] v := by
  intro n
  induction n with
  | zero => intro x0 t0 x1 x2 v h; exact absurd h (by intro q; cases q)
  | succ n ih =>
    intro x0 t0 x1 x2 v h
    rw [fX10_clause_192] at h
    dsimp only at h
    refine z_iload_n F dX10_clause_192 rfl 2 rfl ?_
    refine z_aload_n F dX10_clause_193 rfl 0 rfl ?_
    refine zg_10_11 F t0 wF_X10_20 dX10_clause_194 ?_
    refine z_iconst (y := (0 : Int32)) F dX10_clause_197 rfl ?_
    obtain ⟨hi198, h⟩ := zix_ex h
    refine z_iald F (zt_f tc_10_11 t0) dX10_clause_198 hi198 ?_
    refine z_icmp_ge F 234 dX10_clause_199 rfl (fun hc => ?_) (fun hc => ?_)
    · replace h := zif_t hc h
      refine z_goto F 415 dX10_clause_234 rfl ?_
      refine z_ls [(0, zr G x0), (1, .int x1)] [0, 1] rfl ?_
      exact jX10_clause_415 x G F hr hk w   x0 t0 x1 v h
    · replace h := zif_f hc h
      refine z_aload_n F dX10_clause_202 rfl 0 rfl ?_
      refine zg_10_19 F t0 wF_X10_46 dX10_clause_203 ?_
      refine z_aload_n F dX10_clause_206 rfl 0 rfl ?_
      refine zg_10_11 F t0 wF_X10_20 dX10_clause_207 ?_
      refine z_iconst (y := (1 : Int32)) F dX10_clause_210 rfl ?_
      obtain ⟨hi211, h⟩ := zix_ex h
      refine z_iald F (zt_f tc_10_11 t0) dX10_clause_211 hi211 ?_
      obtain ⟨hi212, h⟩ := zix_ex h
      refine z_aald3 F (zt_f tc_10_19 t0) dX10_clause_212 hi212 ?_
      refine z_iload_n F dX10_clause_213 rfl 2 rfl ?_
      refine z_aload_n F dX10_clause_214 rfl 0 rfl ?_
      refine z_iconst (y := (0 : Int32)) F dX10_clause_215 rfl ?_
      refine z_aload_n F dX10_clause_216 rfl 0 rfl ?_
      refine zg_10_13 F t0 wF_X10_26 dX10_clause_217 ?_
      refine z_iload_n F dX10_clause_220 rfl 2 rfl ?_
      obtain ⟨hi221, h⟩ := zix_ex h
      refine z_iald F (zt_f tc_10_13 t0) dX10_clause_221 hi221 ?_
      refine z_iconst (y := (1 : Int32)) F dX10_clause_222 rfl ?_
      refine z_isub F dX10_clause_223 ?_
      obtain ⟨r_2, v_1, hq224, h⟩ := zbind_ex h
      refine z_callVi F [.int (0 : Int32), .int ((v (zrf x0 13) (x2).toNatClampNeg) - (1 : Int32))] [.int x2, zr G (zrf (zrf x0 19) (v (zrf x0 11) ((1 : Int32)).toNatClampNeg).toNatClampNeg)] (kX10_number x.2.1 G x0 t0 (0 : Int32) ((v (zrf x0 13) (x2).toNatClampNeg) - (1 : Int32)) v r_2 v_1 hq224) mI_X10_number (c := 10) rfl t0 wM_X10_202 mi_X10_number sl_X10_number dX10_clause_224 rfl ⟨Nat.le_of_ble_eq_true rfl, Nat.le_of_ble_eq_true rfl⟩ rfl (Nat.le_of_ble_eq_true rfl) ⟨Nat.zero_le _, Nat.zero_le _⟩ ?_
      obtain ⟨hi227, h⟩ := zix_ex h
      refine z_iast F (zt_a tcA_3 (zt_f tc_10_19 t0) (zin_lt hi212)) dX10_clause_227 hi227 ?_
      obtain ⟨v_3, ev_3, h⟩ := zlet_ex h
      refine z_heap ev_3 ?_
      refine z_iinc F [(2, .int (x2 + (1 : Int32))), (0, zr G x0), (1, .int x1)] dX10_clause_228 2 rfl rfl (Nat.le_of_ble_eq_true rfl) rfl ?_
      refine z_goto F 192 dX10_clause_231 rfl ?_
      refine z_ls [(0, zr G x0), (1, .int x1), (2, .int (x2 + (1 : Int32)))] [1, 2, 0] rfl ?_
      exact ih x0 t0 x1 (x2 + (1 : Int32)) v_3 h

def fX10_clause_285  : Nat → Nat → Int32 → Int32 → Int32 → Int32 → zV → Option zV
  | 0 => fun _ _ _ _ _ _ => none
  | n + 1 => fun x0 x1 x2 x3 x4 v =>
    zix (3 : Int32) (zlen (zrf x0 11)) <|
    if (v (zrf x0 11) ((3 : Int32)).toNatClampNeg) ≤ x4 then
      zix (3 : Int32) (zlen (zrf x0 11)) <|
      zix (v (zrf x0 11) ((3 : Int32)).toNatClampNeg) (zlen (zrf x0 17)) <|
      zlet (zup v (zrf x0 17) (v (zrf x0 11) ((3 : Int32)).toNatClampNeg).toNatClampNeg x3) fun v_1 =>
      fX10_clause_415  x0 x1 v_1
    else
      if (v x0 5) = (0 : Int32) then
        zix x4 (zlen (zrf x0 17)) <|
        if (v (zrf x0 17) (x4).toNatClampNeg) = x3 then
          zbindv (fX10_wrong x0 (2 : Int32) x2 v) fun v_2 =>
          (fX10_clause_285 n) x0 x1 x2 x3 (x4 + (1 : Int32)) v_2
        else
          (fX10_clause_285 n) x0 x1 x2 x3 (x4 + (1 : Int32)) v
      else
        (fX10_clause_285 n) x0 x1 x2 x3 (x4 + (1 : Int32)) v
set_option maxRecDepth 4000 in
theorem jX10_clause_285 (x : zCx) (G : zG) (F : zF x G cX10_clause 5 RX10 6 192) (hr : x.2.2.2.2.2.2.2.2.1.sig.returnType = (Option.none : Option FieldType)) (hk : x.2.2.2.2.2.2.2.2.1.locks = false) (w : zV)  : ∀ (n : Nat) (x0 : Nat) (t0 : zty G x0 1 10) (x1 : Int32) (x2 : Int32) (x3 : Int32) (x4 : Int32) (v : zV), fX10_clause_285 n x0 x1 x2 x3 x4 v = some w → zJ x G 5 (zQ x G none w 0 0) 0 0 285 [(0, zr G x0), (1, .int x1), (2, .int x2), (3, .int x3), (4, .int x4)] [] v := by
  intro n
  induction n with
  | zero => intro x0 t0 x1 x2 x3 x4 v h; exact absurd h (by intro q; cases q)
  | succ n ih =>
    intro x0 t0 x1 x2 x3 x4 v h
    rw [fX10_clause_285] at h
    dsimp only at h
    refine z_iload F dX10_clause_285 4 rfl ?_
    refine z_aload_n F dX10_clause_287 rfl 0 rfl ?_
    refine zg_10_11 F t0 wF_X10_20 dX10_clause_288 ?_
    refine z_iconst (y := (3 : Int32)) F dX10_clause_291 rfl ?_
    obtain ⟨hi292, h⟩ := zix_ex h
    refine z_iald F (zt_f tc_10_11 t0) dX10_clause_292 hi292 ?_
    refine z_icmp_ge F 326 dX10_clause_293 rfl (fun hc => ?_) (fun hc => ?_)
    · replace h := zif_t hc h
      refine z_aload_n F dX10_clause_326 rfl 0 rfl ?_
      refine zg_10_17 F t0 wF_X10_38 dX10_clause_327 ?_
      refine z_aload_n F dX10_clause_330 rfl 0 rfl ?_
      refine zg_10_11 F t0 wF_X10_20 dX10_clause_331 ?_
      refine z_iconst (y := (3 : Int32)) F dX10_clause_334 rfl ?_
      obtain ⟨hi335, h⟩ := zix_ex h
      refine z_iald F (zt_f tc_10_11 t0) dX10_clause_335 hi335 ?_
      refine z_iload_n F dX10_clause_336 rfl 3 rfl ?_
      obtain ⟨hi337, h⟩ := zix_ex h
      refine z_iast F (zt_f tc_10_17 t0) dX10_clause_337 hi337 ?_
      obtain ⟨v_1, ev_1, h⟩ := zlet_ex h
      refine z_heap ev_1 ?_
      refine z_goto F 415 dX10_clause_338 rfl ?_
      refine z_ls [(0, zr G x0), (1, .int x1)] [0, 1] rfl ?_
      exact jX10_clause_415 x G F hr hk w   x0 t0 x1 v_1 h
    · replace h := zif_f hc h
      refine z_aload_n F dX10_clause_296 rfl 0 rfl ?_
      refine zg_10_5 F t0 wF_X10_150 dX10_clause_297 ?_
      refine z_if_ne F 320 dX10_clause_300 rfl (fun hc => ?_) (fun hc => ?_)
      · replace h := zif_f hc h
        refine z_iinc F [(4, .int (x4 + (1 : Int32))), (0, zr G x0), (1, .int x1), (2, .int x2), (3, .int x3)] dX10_clause_320 4 rfl rfl (Nat.le_of_ble_eq_true rfl) rfl ?_
        refine z_goto F 285 dX10_clause_323 rfl ?_
        refine z_ls [(0, zr G x0), (1, .int x1), (2, .int x2), (3, .int x3), (4, .int (x4 + (1 : Int32)))] [1, 2, 3, 4, 0] rfl ?_
        exact ih x0 t0 x1 x2 x3 (x4 + (1 : Int32)) v h
      · replace h := zif_t hc h
        refine z_aload_n F dX10_clause_303 rfl 0 rfl ?_
        refine zg_10_17 F t0 wF_X10_38 dX10_clause_304 ?_
        refine z_iload F dX10_clause_307 4 rfl ?_
        obtain ⟨hi309, h⟩ := zix_ex h
        refine z_iald F (zt_f tc_10_17 t0) dX10_clause_309 hi309 ?_
        refine z_iload_n F dX10_clause_310 rfl 3 rfl ?_
        refine z_icmp_ne F 320 dX10_clause_311 rfl (fun hc => ?_) (fun hc => ?_)
        · replace h := zif_f hc h
          refine z_iinc F [(4, .int (x4 + (1 : Int32))), (0, zr G x0), (1, .int x1), (2, .int x2), (3, .int x3)] dX10_clause_320 4 rfl rfl (Nat.le_of_ble_eq_true rfl) rfl ?_
          refine z_goto F 285 dX10_clause_323 rfl ?_
          refine z_ls [(0, zr G x0), (1, .int x1), (2, .int x2), (3, .int x3), (4, .int (x4 + (1 : Int32)))] [1, 2, 3, 4, 0] rfl ?_
          exact ih x0 t0 x1 x2 x3 (x4 + (1 : Int32)) v h
        · replace h := zif_t hc h
          refine z_aload_n F dX10_clause_314 rfl 0 rfl ?_
          refine z_iconst (y := (2 : Int32)) F dX10_clause_315 rfl ?_
          refine z_iload_n F dX10_clause_316 rfl 2 rfl ?_
          obtain ⟨v_2, hq317, h⟩ := zbindv_ex h
          refine z_callVv F [.int (2 : Int32), .int x2] [] (kX10_wrong x.2.1 G x0 t0 (2 : Int32) x2 v v_2 hq317) mI_X10_wrong (c := 10) rfl t0 wM_X10_163 mi_X10_wrong sl_X10_wrong dX10_clause_317 rfl ⟨Nat.le_of_ble_eq_true rfl, Nat.le_of_ble_eq_true rfl⟩ rfl (Nat.le_of_ble_eq_true rfl) ⟨Nat.zero_le _, Nat.zero_le _⟩ ?_
          refine z_iinc F [(4, .int (x4 + (1 : Int32))), (0, zr G x0), (1, .int x1), (2, .int x2), (3, .int x3)] dX10_clause_320 4 rfl rfl (Nat.le_of_ble_eq_true rfl) rfl ?_
          refine z_goto F 285 dX10_clause_323 rfl ?_
          refine z_ls [(0, zr G x0), (1, .int x1), (2, .int x2), (3, .int x3), (4, .int (x4 + (1 : Int32)))] [1, 2, 3, 4, 0] rfl ?_
          exact ih x0 t0 x1 x2 x3 (x4 + (1 : Int32)) v_2 h

def fX10_clause_94  (x0 : Nat) (x1 : Int32) (v : zV) : Option zV :=
  if (v x0 5) = (0 : Int32) then
    zbindv (fX10_skipWord x0 v) fun v_1 =>
    zlet (zup v_1 x0 7 ((v_1 x0 7) + (1 : Int32))) fun v_2 =>
    if x1 = (0 : Int32) then
      zix (0 : Int32) (zlen (zrf x0 11)) <|
      zbind (fX10_number x0 (2 : Int32) (3 : Int32) v_2) fun r_4 v_3 =>
      zix (v_2 (zrf x0 11) ((0 : Int32)).toNatClampNeg) (zlen (zrf x0 13)) <|
      zlet (zup v_3 (zrf x0 13) (v_2 (zrf x0 11) ((0 : Int32)).toNatClampNeg).toNatClampNeg r_4) fun v_5 =>
      fX10_clause_415  x0 x1 v_5
    else
      if x1 = (1 : Int32) then
        zix (1 : Int32) (zlen (zrf x0 11)) <|
        zbind (fX10_number x0 (0 : Int32) (99 : Int32) v_2) fun r_7 v_6 =>
        zix (v_2 (zrf x0 11) ((1 : Int32)).toNatClampNeg) (zlen (zrf x0 15)) <|
        zlet (zup v_6 (zrf x0 15) (v_2 (zrf x0 11) ((1 : Int32)).toNatClampNeg).toNatClampNeg r_7) fun v_8 =>
        fX10_clause_192  zFU x0 x1 (0 : Int32) v_8
      else
        if x1 = (2 : Int32) then
          zbind (fX10_number x0 (2 : Int32) (12 : Int32) v_2) fun r_10 v_9 =>
          zix (2 : Int32) (zlen (zrf x0 11)) <|
          zlet (zup v_9 (zrf x0 11) ((2 : Int32)).toNatClampNeg r_10) fun v_11 =>
          zlet (zup v_11 x0 25 (1 : Int32)) fun v_12 =>
          fX10_clause_415  x0 x1 v_12
        else
          if x1 = (3 : Int32) then
            if (v_2 x0 5) = (0 : Int32) then
              zbindv (fX10_blanks x0 v_2) fun v_13 =>
              zbind (fX10_manHere x0 v_13) fun r_15 v_14 =>
              fX10_clause_285  zFU x0 x1 (v_13 x0 4) r_15 (0 : Int32) v_14
            else
              fX10_clause_415  x0 x1 v_2
          else
            if x1 = (4 : Int32) then
              zix (4 : Int32) (zlen (zrf x0 11)) <|
              zix (v_2 (zrf x0 11) ((4 : Int32)).toNatClampNeg) (zlen (zrf x0 21)) <|
              zbind (fX10_number x0 (1 : Int32) (60 : Int32) v_2) fun r_17 v_16 =>
              zix (0 : Int32) (zlen (zrf (zrf x0 21) (v_2 (zrf x0 11) ((4 : Int32)).toNatClampNeg).toNatClampNeg)) <|
              zlet (zup v_16 (zrf (zrf x0 21) (v_2 (zrf x0 11) ((4 : Int32)).toNatClampNeg).toNatClampNeg) ((0 : Int32)).toNatClampNeg r_17) fun v_18 =>
              zbind (fX10_manHere x0 v_18) fun r_20 v_19 =>
              zix (1 : Int32) (zlen (zrf (zrf x0 21) (v_2 (zrf x0 11) ((4 : Int32)).toNatClampNeg).toNatClampNeg)) <|
              zlet (zup v_19 (zrf (zrf x0 21) (v_2 (zrf x0 11) ((4 : Int32)).toNatClampNeg).toNatClampNeg) ((1 : Int32)).toNatClampNeg r_20) fun v_21 =>
              fX10_clause_415  x0 x1 v_21
            else
              zix (5 : Int32) (zlen (zrf x0 11)) <|
              zix (v_2 (zrf x0 11) ((5 : Int32)).toNatClampNeg) (zlen (zrf x0 23)) <|
              zbind (fX10_number x0 (1 : Int32) (60 : Int32) v_2) fun r_23 v_22 =>
              zix (0 : Int32) (zlen (zrf (zrf x0 23) (v_2 (zrf x0 11) ((5 : Int32)).toNatClampNeg).toNatClampNeg)) <|
              zlet (zup v_22 (zrf (zrf x0 23) (v_2 (zrf x0 11) ((5 : Int32)).toNatClampNeg).toNatClampNeg) ((0 : Int32)).toNatClampNeg r_23) fun v_24 =>
              zbind (fX10_manHere x0 v_24) fun r_26 v_25 =>
              zix (1 : Int32) (zlen (zrf (zrf x0 23) (v_2 (zrf x0 11) ((5 : Int32)).toNatClampNeg).toNatClampNeg)) <|
              zlet (zup v_25 (zrf (zrf x0 23) (v_2 (zrf x0 11) ((5 : Int32)).toNatClampNeg).toNatClampNeg) ((1 : Int32)).toNatClampNeg r_26) fun v_27 =>
              zbind (fX10_number x0 (1 : Int32) (99 : Int32) v_27) fun r_29 v_28 =>
              zix (2 : Int32) (zlen (zrf (zrf x0 23) (v_2 (zrf x0 11) ((5 : Int32)).toNatClampNeg).toNatClampNeg)) <|
              zlet (zup v_28 (zrf (zrf x0 23) (v_2 (zrf x0 11) ((5 : Int32)).toNatClampNeg).toNatClampNeg) ((2 : Int32)).toNatClampNeg r_29) fun v_30 =>
              fX10_clause_415  x0 x1 v_30
  else
    some v
set_option maxRecDepth 4000 in
theorem jX10_clause_94 (x : zCx) (G : zG) (F : zF x G cX10_clause 5 RX10 6 192) (hr : x.2.2.2.2.2.2.2.2.1.sig.returnType = (Option.none : Option FieldType)) (hk : x.2.2.2.2.2.2.2.2.1.locks = false) (w : zV)  : ∀ (x0 : Nat) (t0 : zty G x0 1 10) (x1 : Int32) (v : zV), fX10_clause_94 x0 x1 v = some w → zJ x G 5 (zQ x G none w 0 0) 0 0 94 [(0, zr G x0), (1, .int x1)] [] v := by
  intro x0 t0 x1 v h
  unfold fX10_clause_94 at h
  refine z_aload_n F dX10_clause_94 rfl 0 rfl ?_
  refine zg_10_5 F t0 wF_X10_150 dX10_clause_95 ?_
  refine z_if_eq F 102 dX10_clause_98 rfl (fun hc => ?_) (fun hc => ?_)
  · replace h := zif_t hc h
    refine z_aload_n F dX10_clause_102 rfl 0 rfl ?_
    obtain ⟨v_1, hq103, h⟩ := zbindv_ex h
    refine z_callVv F [] [] (kX10_skipWord x.2.1 G x0 t0 v v_1 hq103) mI_X10_skipWord (c := 10) rfl t0 wM_X10_193 mi_X10_skipWord sl_X10_skipWord dX10_clause_103 rfl ⟨Nat.le_of_ble_eq_true rfl, Nat.le_of_ble_eq_true rfl⟩ rfl (Nat.le_of_ble_eq_true rfl) ⟨Nat.zero_le _, Nat.zero_le _⟩ ?_
    refine z_aload_n F dX10_clause_106 rfl 0 rfl ?_
    refine z_dup F dX10_clause_107 rfl ?_
    refine zg_10_7 F t0 wF_X10_196 dX10_clause_108 ?_
    refine z_iconst (y := (1 : Int32)) F dX10_clause_111 rfl ?_
    refine z_iadd F dX10_clause_112 ?_
    refine zp_10_7 F t0 wF_X10_196 dX10_clause_113 ?_
    obtain ⟨v_2, ev_2, h⟩ := zlet_ex h
    refine z_heap ev_2 ?_
    refine z_iload_n F dX10_clause_116 rfl 1 rfl ?_
    by_cases hc : x1 = (0 : Int32)
    · replace h := zif_t hc h
      refine z_swIn F 152 hc dX10_clause_117 (by decide) (by decide) rfl rfl ?_
      refine z_aload_n F dX10_clause_152 rfl 0 rfl ?_
      refine zg_10_13 F t0 wF_X10_26 dX10_clause_153 ?_
      refine z_aload_n F dX10_clause_156 rfl 0 rfl ?_
      refine zg_10_11 F t0 wF_X10_20 dX10_clause_157 ?_
      refine z_iconst (y := (0 : Int32)) F dX10_clause_160 rfl ?_
      obtain ⟨hi161, h⟩ := zix_ex h
      refine z_iald F (zt_f tc_10_11 t0) dX10_clause_161 hi161 ?_
      refine z_aload_n F dX10_clause_162 rfl 0 rfl ?_
      refine z_iconst (y := (2 : Int32)) F dX10_clause_163 rfl ?_
      refine z_iconst (y := (3 : Int32)) F dX10_clause_164 rfl ?_
      obtain ⟨r_4, v_3, hq165, h⟩ := zbind_ex h
      refine z_callVi F [.int (2 : Int32), .int (3 : Int32)] [.int (v_2 (zrf x0 11) ((0 : Int32)).toNatClampNeg), zr G (zrf x0 13)] (kX10_number x.2.1 G x0 t0 (2 : Int32) (3 : Int32) v_2 r_4 v_3 hq165) mI_X10_number (c := 10) rfl t0 wM_X10_202 mi_X10_number sl_X10_number dX10_clause_165 rfl ⟨Nat.le_of_ble_eq_true rfl, Nat.le_of_ble_eq_true rfl⟩ rfl (Nat.le_of_ble_eq_true rfl) ⟨Nat.zero_le _, Nat.zero_le _⟩ ?_
      obtain ⟨hi168, h⟩ := zix_ex h
      refine z_iast F (zt_f tc_10_13 t0) dX10_clause_168 hi168 ?_
      obtain ⟨v_5, ev_5, h⟩ := zlet_ex h
      refine z_heap ev_5 ?_
      refine z_goto F 415 dX10_clause_169 rfl ?_
      refine z_ls [(0, zr G x0), (1, .int x1)] [0, 1] rfl ?_
      exact jX10_clause_415 x G F hr hk w   x0 t0 x1 v_5 h
    · replace h := zif_f hc h
      have hn0 := zsw_ne hc
      by_cases hc : x1 = (1 : Int32)
      · replace h := zif_t hc h
        refine z_swIn F 172 hc dX10_clause_117 (by decide) (by decide) rfl rfl ?_
        refine z_aload_n F dX10_clause_172 rfl 0 rfl ?_
        refine zg_10_15 F t0 wF_X10_32 dX10_clause_173 ?_
        refine z_aload_n F dX10_clause_176 rfl 0 rfl ?_
        refine zg_10_11 F t0 wF_X10_20 dX10_clause_177 ?_
        refine z_iconst (y := (1 : Int32)) F dX10_clause_180 rfl ?_
        obtain ⟨hi181, h⟩ := zix_ex h
        refine z_iald F (zt_f tc_10_11 t0) dX10_clause_181 hi181 ?_
        refine z_aload_n F dX10_clause_182 rfl 0 rfl ?_
        refine z_iconst (y := (0 : Int32)) F dX10_clause_183 rfl ?_
        refine z_bipush (y := (99 : Int32)) F dX10_clause_184 rfl ?_
        obtain ⟨r_7, v_6, hq186, h⟩ := zbind_ex h
        refine z_callVi F [.int (0 : Int32), .int (99 : Int32)] [.int (v_2 (zrf x0 11) ((1 : Int32)).toNatClampNeg), zr G (zrf x0 15)] (kX10_number x.2.1 G x0 t0 (0 : Int32) (99 : Int32) v_2 r_7 v_6 hq186) mI_X10_number (c := 10) rfl t0 wM_X10_202 mi_X10_number sl_X10_number dX10_clause_186 rfl ⟨Nat.le_of_ble_eq_true rfl, Nat.le_of_ble_eq_true rfl⟩ rfl (Nat.le_of_ble_eq_true rfl) ⟨Nat.zero_le _, Nat.zero_le _⟩ ?_
        obtain ⟨hi189, h⟩ := zix_ex h
        refine z_iast F (zt_f tc_10_15 t0) dX10_clause_189 hi189 ?_
        obtain ⟨v_8, ev_8, h⟩ := zlet_ex h
        refine z_heap ev_8 ?_
        refine z_iconst (y := (0 : Int32)) F dX10_clause_190 rfl ?_
        refine z_istore_n F [(2, .int (0 : Int32)), (0, zr G x0), (1, .int x1)] dX10_clause_191 rfl (Nat.le_of_ble_eq_true rfl) rfl ?_
        refine z_ls [(0, zr G x0), (1, .int x1), (2, .int (0 : Int32))] [1, 2, 0] rfl ?_
        exact jX10_clause_192 x G F hr hk w   zFU x0 t0 x1 (0 : Int32) v_8 h
      · replace h := zif_f hc h
        have hn1 := zsw_ne hc
        by_cases hc : x1 = (2 : Int32)
        · replace h := zif_t hc h
          refine z_swIn F 237 hc dX10_clause_117 (by decide) (by decide) rfl rfl ?_
          refine z_aload_n F dX10_clause_237 rfl 0 rfl ?_
          refine zg_10_11 F t0 wF_X10_20 dX10_clause_238 ?_
          refine z_iconst (y := (2 : Int32)) F dX10_clause_241 rfl ?_
          refine z_aload_n F dX10_clause_242 rfl 0 rfl ?_
          refine z_iconst (y := (2 : Int32)) F dX10_clause_243 rfl ?_
          refine z_bipush (y := (12 : Int32)) F dX10_clause_244 rfl ?_
          obtain ⟨r_10, v_9, hq246, h⟩ := zbind_ex h
          refine z_callVi F [.int (2 : Int32), .int (12 : Int32)] [.int (2 : Int32), zr G (zrf x0 11)] (kX10_number x.2.1 G x0 t0 (2 : Int32) (12 : Int32) v_2 r_10 v_9 hq246) mI_X10_number (c := 10) rfl t0 wM_X10_202 mi_X10_number sl_X10_number dX10_clause_246 rfl ⟨Nat.le_of_ble_eq_true rfl, Nat.le_of_ble_eq_true rfl⟩ rfl (Nat.le_of_ble_eq_true rfl) ⟨Nat.zero_le _, Nat.zero_le _⟩ ?_
          obtain ⟨hi249, h⟩ := zix_ex h
          refine z_iast F (zt_f tc_10_11 t0) dX10_clause_249 hi249 ?_
          obtain ⟨v_11, ev_11, h⟩ := zlet_ex h
          refine z_heap ev_11 ?_
          refine z_aload_n F dX10_clause_250 rfl 0 rfl ?_
          refine z_iconst (y := (1 : Int32)) F dX10_clause_251 rfl ?_
          refine zp_10_25 F rfl rfl t0 wF_X10_130 dX10_clause_252 ?_
          obtain ⟨v_12, ev_12, h⟩ := zlet_ex h
          refine z_heap ev_12 ?_
          refine z_goto F 415 dX10_clause_255 rfl ?_
          refine z_ls [(0, zr G x0), (1, .int x1)] [0, 1] rfl ?_
          exact jX10_clause_415 x G F hr hk w   x0 t0 x1 v_12 h
        · replace h := zif_f hc h
          have hn2 := zsw_ne hc
          by_cases hc : x1 = (3 : Int32)
          · replace h := zif_t hc h
            refine z_swIn F 258 hc dX10_clause_117 (by decide) (by decide) rfl rfl ?_
            refine z_aload_n F dX10_clause_258 rfl 0 rfl ?_
            refine zg_10_5 F t0 wF_X10_150 dX10_clause_259 ?_
            refine z_if_eq F 268 dX10_clause_262 rfl (fun hc => ?_) (fun hc => ?_)
            · replace h := zif_t hc h
              refine z_aload_n F dX10_clause_268 rfl 0 rfl ?_
              obtain ⟨v_13, hq269, h⟩ := zbindv_ex h
              refine z_callVv F [] [] (kX10_blanks x.2.1 G x0 t0 v_2 v_13 hq269) mI_X10_blanks (c := 10) rfl t0 wM_X10_156 mi_X10_blanks sl_X10_blanks dX10_clause_269 rfl ⟨Nat.le_of_ble_eq_true rfl, Nat.le_of_ble_eq_true rfl⟩ rfl (Nat.le_of_ble_eq_true rfl) ⟨Nat.zero_le _, Nat.zero_le _⟩ ?_
              refine z_aload_n F dX10_clause_272 rfl 0 rfl ?_
              refine zg_10_4 F t0 wF_X10_143 dX10_clause_273 ?_
              refine z_istore_n F [(2, .int (v_13 x0 4)), (0, zr G x0), (1, .int x1)] dX10_clause_276 rfl (Nat.le_of_ble_eq_true rfl) rfl ?_
              refine z_aload_n F dX10_clause_277 rfl 1 rfl ?_
              obtain ⟨r_15, v_14, hq278, h⟩ := zbind_ex h
              refine z_callVi F [] [] (kX10_manHere x.2.1 G x0 t0 v_13 r_15 v_14 hq278) mI_X10_manHere (c := 10) rfl t0 wM_X10_213 mi_X10_manHere sl_X10_manHere dX10_clause_278 rfl ⟨Nat.le_of_ble_eq_true rfl, Nat.le_of_ble_eq_true rfl⟩ rfl (Nat.le_of_ble_eq_true rfl) ⟨Nat.zero_le _, Nat.zero_le _⟩ ?_
              refine z_istore_n F [(3, .int r_15), (2, .int (v_13 x0 4)), (0, zr G x0), (1, .int x1)] dX10_clause_281 rfl (Nat.le_of_ble_eq_true rfl) rfl ?_
              refine z_iconst (y := (0 : Int32)) F dX10_clause_282 rfl ?_
              refine z_istore (n := 0) F [(4, .int (0 : Int32)), (3, .int r_15), (2, .int (v_13 x0 4)), (0, zr G x0), (1, .int x1)] dX10_clause_283 (Nat.le_of_ble_eq_true rfl) rfl ?_
              refine z_ls [(0, zr G x0), (1, .int x1), (2, .int (v_13 x0 4)), (3, .int r_15), (4, .int (0 : Int32))] [3, 4, 2, 1, 0] rfl ?_
              exact jX10_clause_285 x G F hr hk w   zFU x0 t0 x1 (v_13 x0 4) r_15 (0 : Int32) v_14 h
            · replace h := zif_f hc h
              refine z_goto F 415 dX10_clause_265 rfl ?_
              refine z_ls [(0, zr G x0), (1, .int x1)] [0, 1] rfl ?_
              exact jX10_clause_415 x G F hr hk w   x0 t0 x1 v_2 h
          · replace h := zif_f hc h
            have hn3 := zsw_ne hc
            by_cases hc : x1 = (4 : Int32)
            · replace h := zif_t hc h
              refine z_swIn F 341 hc dX10_clause_117 (by decide) (by decide) rfl rfl ?_
              refine z_aload_n F dX10_clause_341 rfl 0 rfl ?_
              refine zg_10_21 F t0 wF_X10_52 dX10_clause_342 ?_
              refine z_aload_n F dX10_clause_345 rfl 0 rfl ?_
              refine zg_10_11 F t0 wF_X10_20 dX10_clause_346 ?_
              refine z_iconst (y := (4 : Int32)) F dX10_clause_349 rfl ?_
              obtain ⟨hi350, h⟩ := zix_ex h
              refine z_iald F (zt_f tc_10_11 t0) dX10_clause_350 hi350 ?_
              obtain ⟨hi351, h⟩ := zix_ex h
              refine z_aald3 F (zt_f tc_10_21 t0) dX10_clause_351 hi351 ?_
              refine z_astore_n F [(2, zr G (zrf (zrf x0 21) (v_2 (zrf x0 11) ((4 : Int32)).toNatClampNeg).toNatClampNeg)), (0, zr G x0), (1, .int x1)] dX10_clause_352 rfl (Nat.le_of_ble_eq_true rfl) rfl ?_
              refine z_aload_n F dX10_clause_353 rfl 0 rfl ?_
              refine z_iconst (y := (0 : Int32)) F dX10_clause_354 rfl ?_
              refine z_aload_n F dX10_clause_355 rfl 1 rfl ?_
              refine z_iconst (y := (1 : Int32)) F dX10_clause_356 rfl ?_
              refine z_bipush (y := (60 : Int32)) F dX10_clause_357 rfl ?_
              obtain ⟨r_17, v_16, hq359, h⟩ := zbind_ex h
              refine z_callVi F [.int (1 : Int32), .int (60 : Int32)] [.int (0 : Int32), zr G (zrf (zrf x0 21) (v_2 (zrf x0 11) ((4 : Int32)).toNatClampNeg).toNatClampNeg)] (kX10_number x.2.1 G x0 t0 (1 : Int32) (60 : Int32) v_2 r_17 v_16 hq359) mI_X10_number (c := 10) rfl t0 wM_X10_202 mi_X10_number sl_X10_number dX10_clause_359 rfl ⟨Nat.le_of_ble_eq_true rfl, Nat.le_of_ble_eq_true rfl⟩ rfl (Nat.le_of_ble_eq_true rfl) ⟨Nat.zero_le _, Nat.zero_le _⟩ ?_
              obtain ⟨hi362, h⟩ := zix_ex h
              refine z_iast F (zt_a tcA_3 (zt_f tc_10_21 t0) (zin_lt hi351)) dX10_clause_362 hi362 ?_
              obtain ⟨v_18, ev_18, h⟩ := zlet_ex h
              refine z_heap ev_18 ?_
              refine z_aload_n F dX10_clause_363 rfl 0 rfl ?_
              refine z_iconst (y := (1 : Int32)) F dX10_clause_364 rfl ?_
              refine z_aload_n F dX10_clause_365 rfl 1 rfl ?_
              obtain ⟨r_20, v_19, hq366, h⟩ := zbind_ex h
              refine z_callVi F [] [.int (1 : Int32), zr G (zrf (zrf x0 21) (v_2 (zrf x0 11) ((4 : Int32)).toNatClampNeg).toNatClampNeg)] (kX10_manHere x.2.1 G x0 t0 v_18 r_20 v_19 hq366) mI_X10_manHere (c := 10) rfl t0 wM_X10_213 mi_X10_manHere sl_X10_manHere dX10_clause_366 rfl ⟨Nat.le_of_ble_eq_true rfl, Nat.le_of_ble_eq_true rfl⟩ rfl (Nat.le_of_ble_eq_true rfl) ⟨Nat.zero_le _, Nat.zero_le _⟩ ?_
              obtain ⟨hi369, h⟩ := zix_ex h
              refine z_iast F (zt_a tcA_3 (zt_f tc_10_21 t0) (zin_lt hi351)) dX10_clause_369 hi369 ?_
              obtain ⟨v_21, ev_21, h⟩ := zlet_ex h
              refine z_heap ev_21 ?_
              refine z_goto F 415 dX10_clause_370 rfl ?_
              refine z_ls [(0, zr G x0), (1, .int x1)] [1, 2] rfl ?_
              exact jX10_clause_415 x G F hr hk w   x0 t0 x1 v_21 h
            · replace h := zif_f hc h
              have hn4 := zsw_ne hc
              refine z_tableOut F 373 dX10_clause_117 (by have q0 : ((0 : Int32) : Int32).toInt = 0 := rfl; have q1 : ((1 : Int32) : Int32).toInt = 1 := rfl; have q2 : ((2 : Int32) : Int32).toInt = 2 := rfl; have q3 : ((3 : Int32) : Int32).toInt = 3 := rfl; have q4 : ((4 : Int32) : Int32).toInt = 4 := rfl; omega) rfl ?_
              refine z_aload_n F dX10_clause_373 rfl 0 rfl ?_
              refine zg_10_23 F t0 wF_X10_58 dX10_clause_374 ?_
              refine z_aload_n F dX10_clause_377 rfl 0 rfl ?_
              refine zg_10_11 F t0 wF_X10_20 dX10_clause_378 ?_
              refine z_iconst (y := (5 : Int32)) F dX10_clause_381 rfl ?_
              obtain ⟨hi382, h⟩ := zix_ex h
              refine z_iald F (zt_f tc_10_11 t0) dX10_clause_382 hi382 ?_
              obtain ⟨hi383, h⟩ := zix_ex h
              refine z_aald3 F (zt_f tc_10_23 t0) dX10_clause_383 hi383 ?_
              refine z_astore_n F [(2, zr G (zrf (zrf x0 23) (v_2 (zrf x0 11) ((5 : Int32)).toNatClampNeg).toNatClampNeg)), (0, zr G x0), (1, .int x1)] dX10_clause_384 rfl (Nat.le_of_ble_eq_true rfl) rfl ?_
              refine z_aload_n F dX10_clause_385 rfl 0 rfl ?_
              refine z_iconst (y := (0 : Int32)) F dX10_clause_386 rfl ?_
              refine z_aload_n F dX10_clause_387 rfl 1 rfl ?_
              refine z_iconst (y := (1 : Int32)) F dX10_clause_388 rfl ?_
              refine z_bipush (y := (60 : Int32)) F dX10_clause_389 rfl ?_
              obtain ⟨r_23, v_22, hq391, h⟩ := zbind_ex h
              refine z_callVi F [.int (1 : Int32), .int (60 : Int32)] [.int (0 : Int32), zr G (zrf (zrf x0 23) (v_2 (zrf x0 11) ((5 : Int32)).toNatClampNeg).toNatClampNeg)] (kX10_number x.2.1 G x0 t0 (1 : Int32) (60 : Int32) v_2 r_23 v_22 hq391) mI_X10_number (c := 10) rfl t0 wM_X10_202 mi_X10_number sl_X10_number dX10_clause_391 rfl ⟨Nat.le_of_ble_eq_true rfl, Nat.le_of_ble_eq_true rfl⟩ rfl (Nat.le_of_ble_eq_true rfl) ⟨Nat.zero_le _, Nat.zero_le _⟩ ?_
              obtain ⟨hi394, h⟩ := zix_ex h
              refine z_iast F (zt_a tcA_3 (zt_f tc_10_23 t0) (zin_lt hi383)) dX10_clause_394 hi394 ?_
              obtain ⟨v_24, ev_24, h⟩ := zlet_ex h
              refine z_heap ev_24 ?_
              refine z_aload_n F dX10_clause_395 rfl 0 rfl ?_
              refine z_iconst (y := (1 : Int32)) F dX10_clause_396 rfl ?_
              refine z_aload_n F dX10_clause_397 rfl 1 rfl ?_
              obtain ⟨r_26, v_25, hq398, h⟩ := zbind_ex h
              refine z_callVi F [] [.int (1 : Int32), zr G (zrf (zrf x0 23) (v_2 (zrf x0 11) ((5 : Int32)).toNatClampNeg).toNatClampNeg)] (kX10_manHere x.2.1 G x0 t0 v_24 r_26 v_25 hq398) mI_X10_manHere (c := 10) rfl t0 wM_X10_213 mi_X10_manHere sl_X10_manHere dX10_clause_398 rfl ⟨Nat.le_of_ble_eq_true rfl, Nat.le_of_ble_eq_true rfl⟩ rfl (Nat.le_of_ble_eq_true rfl) ⟨Nat.zero_le _, Nat.zero_le _⟩ ?_
              obtain ⟨hi401, h⟩ := zix_ex h
              refine z_iast F (zt_a tcA_3 (zt_f tc_10_23 t0) (zin_lt hi383)) dX10_clause_401 hi401 ?_
              obtain ⟨v_27, ev_27, h⟩ := zlet_ex h
              refine z_heap ev_27 ?_
              refine z_aload_n F dX10_clause_402 rfl 0 rfl ?_
              refine z_iconst (y := (2 : Int32)) F dX10_clause_403 rfl ?_
              refine z_aload_n F dX10_clause_404 rfl 1 rfl ?_
              refine z_iconst (y := (1 : Int32)) F dX10_clause_405 rfl ?_
              refine z_bipush (y := (99 : Int32)) F dX10_clause_406 rfl ?_
              obtain ⟨r_29, v_28, hq408, h⟩ := zbind_ex h
              refine z_callVi F [.int (1 : Int32), .int (99 : Int32)] [.int (2 : Int32), zr G (zrf (zrf x0 23) (v_2 (zrf x0 11) ((5 : Int32)).toNatClampNeg).toNatClampNeg)] (kX10_number x.2.1 G x0 t0 (1 : Int32) (99 : Int32) v_27 r_29 v_28 hq408) mI_X10_number (c := 10) rfl t0 wM_X10_202 mi_X10_number sl_X10_number dX10_clause_408 rfl ⟨Nat.le_of_ble_eq_true rfl, Nat.le_of_ble_eq_true rfl⟩ rfl (Nat.le_of_ble_eq_true rfl) ⟨Nat.zero_le _, Nat.zero_le _⟩ ?_
              obtain ⟨hi411, h⟩ := zix_ex h
              refine z_iast F (zt_a tcA_3 (zt_f tc_10_23 t0) (zin_lt hi383)) dX10_clause_411 hi411 ?_
              obtain ⟨v_30, ev_30, h⟩ := zlet_ex h
              refine z_heap ev_30 ?_
              refine z_goto F 415 dX10_clause_412 rfl ?_
              refine z_ls [(0, zr G x0), (1, .int x1)] [1, 2] rfl ?_
              exact jX10_clause_415 x G F hr hk w   x0 t0 x1 v_30 h
  · replace h := zif_f hc h
    cases h
    exact z_retv F hr hk dX10_clause_101

def fX10_clause_64  (x0 : Nat) (x1 : Int32) (v : zV) : Option zV :=
  if x1 = (2 : Int32) then
    if (v x0 25) = (0 : Int32) then
      zix (3 : Int32) (zlen (zrf x0 11)) <|
      if (v (zrf x0 11) ((3 : Int32)).toNatClampNeg) ≤ (0 : Int32) then
        fX10_clause_94  x0 x1 v
      else
        zbindv (fX10_wrong x0 (4 : Int32) (v x0 4) v) fun v_2 =>
        fX10_clause_94  x0 x1 v_2
    else
      zbindv (fX10_wrong x0 (4 : Int32) (v x0 4) v) fun v_1 =>
      fX10_clause_94  x0 x1 v_1
  else
    fX10_clause_94  x0 x1 v
set_option maxRecDepth 4000 in
theorem jX10_clause_64 (x : zCx) (G : zG) (F : zF x G cX10_clause 5 RX10 6 192) (hr : x.2.2.2.2.2.2.2.2.1.sig.returnType = (Option.none : Option FieldType)) (hk : x.2.2.2.2.2.2.2.2.1.locks = false) (w : zV)  : ∀ (x0 : Nat) (t0 : zty G x0 1 10) (x1 : Int32) (v : zV), fX10_clause_64 x0 x1 v = some w → zJ x G 5 (zQ x G none w 0 0) 0 0 64 [(0, zr G x0), (1, .int x1)] [] v := by
  intro x0 t0 x1 v h
  unfold fX10_clause_64 at h
  refine z_iload_n F dX10_clause_64 rfl 1 rfl ?_
  refine z_iconst (y := (2 : Int32)) F dX10_clause_65 rfl ?_
  refine z_icmp_ne F 94 dX10_clause_66 rfl (fun hc => ?_) (fun hc => ?_)
  · replace h := zif_f hc h
    refine z_ls [(0, zr G x0), (1, .int x1)] [0, 1] rfl ?_
    exact jX10_clause_94 x G F hr hk w   x0 t0 x1 v h
  · replace h := zif_t hc h
    refine z_aload_n F dX10_clause_69 rfl 0 rfl ?_
    refine zg_10_25 F t0 wF_X10_130 dX10_clause_70 ?_
    refine z_if_ne F 85 dX10_clause_73 rfl (fun hc => ?_) (fun hc => ?_)
    · replace h := zif_f hc h
      refine z_aload_n F dX10_clause_85 rfl 0 rfl ?_
      refine z_iconst (y := (4 : Int32)) F dX10_clause_86 rfl ?_
      refine z_aload_n F dX10_clause_87 rfl 0 rfl ?_
      refine zg_10_4 F t0 wF_X10_143 dX10_clause_88 ?_
      obtain ⟨v_1, hq91, h⟩ := zbindv_ex h
      refine z_callVv F [.int (4 : Int32), .int (v x0 4)] [] (kX10_wrong x.2.1 G x0 t0 (4 : Int32) (v x0 4) v v_1 hq91) mI_X10_wrong (c := 10) rfl t0 wM_X10_163 mi_X10_wrong sl_X10_wrong dX10_clause_91 rfl ⟨Nat.le_of_ble_eq_true rfl, Nat.le_of_ble_eq_true rfl⟩ rfl (Nat.le_of_ble_eq_true rfl) ⟨Nat.zero_le _, Nat.zero_le _⟩ ?_
      refine z_ls [(0, zr G x0), (1, .int x1)] [0, 1] rfl ?_
      exact jX10_clause_94 x G F hr hk w   x0 t0 x1 v_1 h
    · replace h := zif_t hc h
      refine z_aload_n F dX10_clause_76 rfl 0 rfl ?_
      refine zg_10_11 F t0 wF_X10_20 dX10_clause_77 ?_
      refine z_iconst (y := (3 : Int32)) F dX10_clause_80 rfl ?_
      obtain ⟨hi81, h⟩ := zix_ex h
      refine z_iald F (zt_f tc_10_11 t0) dX10_clause_81 hi81 ?_
      refine z_if_le F 94 dX10_clause_82 rfl (fun hc => ?_) (fun hc => ?_)
      · replace h := zif_t hc h
        refine z_ls [(0, zr G x0), (1, .int x1)] [0, 1] rfl ?_
        exact jX10_clause_94 x G F hr hk w   x0 t0 x1 v h
      · replace h := zif_f hc h
        refine z_aload_n F dX10_clause_85 rfl 0 rfl ?_
        refine z_iconst (y := (4 : Int32)) F dX10_clause_86 rfl ?_
        refine z_aload_n F dX10_clause_87 rfl 0 rfl ?_
        refine zg_10_4 F t0 wF_X10_143 dX10_clause_88 ?_
        obtain ⟨v_2, hq91, h⟩ := zbindv_ex h
        refine z_callVv F [.int (4 : Int32), .int (v x0 4)] [] (kX10_wrong x.2.1 G x0 t0 (4 : Int32) (v x0 4) v v_2 hq91) mI_X10_wrong (c := 10) rfl t0 wM_X10_163 mi_X10_wrong sl_X10_wrong dX10_clause_91 rfl ⟨Nat.le_of_ble_eq_true rfl, Nat.le_of_ble_eq_true rfl⟩ rfl (Nat.le_of_ble_eq_true rfl) ⟨Nat.zero_le _, Nat.zero_le _⟩ ?_
        refine z_ls [(0, zr G x0), (1, .int x1)] [0, 1] rfl ?_
        exact jX10_clause_94 x G F hr hk w   x0 t0 x1 v_2 h

def fX10_clause (x0 : Nat) (v : zV) : Option zV :=
  zbind (fX10_kindHere x0 v) fun r_2 v_1 =>
  if r_2 = (-1 : Int32) then
    zbindv (fX10_wrong x0 (1 : Int32) (v_1 x0 4) v_1) fun v_8 =>
    fX10_clause_94  x0 r_2 v_8
  else
    if (v_1 x0 7) = (60 : Int32) then
      zbindv (fX10_wrong x0 (3 : Int32) (v_1 x0 4) v_1) fun v_3 =>
      fX10_clause_94  x0 r_2 v_3
    else
      zbind (fX10_isFull x0 r_2 v_1) fun r_5 v_4 =>
      if r_5 = (0 : Int32) then
        if r_2 = (0 : Int32) then
          zix (1 : Int32) (zlen (zrf x0 11)) <|
          if (0 : Int32) < (v_4 (zrf x0 11) ((1 : Int32)).toNatClampNeg) then
            zbindv (fX10_wrong x0 (4 : Int32) (v_4 x0 4) v_4) fun v_6 =>
            fX10_clause_94  x0 r_2 v_6
          else
            fX10_clause_64  x0 r_2 v_4
        else
          fX10_clause_64  x0 r_2 v_4
      else
        zbindv (fX10_wrong x0 (3 : Int32) (v_4 x0 4) v_4) fun v_7 =>
        fX10_clause_94  x0 r_2 v_7
set_option maxRecDepth 4000 in
theorem kX10_clause (l : Launch) (G : zG) (x0 : Nat) (t0 : zty G x0 1 10) (v : zV) (w : zV) (h : fX10_clause x0 v = some w) : zMet l yX10_clause cX10_clause 5 (Option.none : Option FieldType) 6 192 0 0 [zr G x0] G v none w := by
  refine zM_of (own := RX10) (by decide) rfl (Nat.le_of_ble_eq_true rfl) (fun x hl F hr hk hcs => ?_)
  subst hl
  refine z_ls [(0, zr G x0)] [0] rfl ?_
  unfold fX10_clause at h
  refine z_aload_n F dX10_clause_0 rfl 0 rfl ?_
  obtain ⟨r_2, v_1, hq1, h⟩ := zbind_ex h
  refine z_callVi F [] [] (kX10_kindHere x.2.1 G x0 t0 v r_2 v_1 hq1) mI_X10_kindHere (c := 10) rfl t0 wM_X10_206 mi_X10_kindHere sl_X10_kindHere dX10_clause_1 rfl ⟨Nat.le_of_ble_eq_true rfl, Nat.le_of_ble_eq_true rfl⟩ rfl (Nat.le_of_ble_eq_true rfl) ⟨Nat.zero_le _, Nat.zero_le _⟩ ?_
  refine z_istore_n F [(1, .int r_2), (0, zr G x0)] dX10_clause_4 rfl (Nat.le_of_ble_eq_true rfl) rfl ?_
  refine z_iload_n F dX10_clause_5 rfl 0 rfl ?_
  refine z_iconst (y := (-1 : Int32)) F dX10_clause_6 rfl ?_
  refine z_icmp_ne F 22 dX10_clause_7 rfl (fun hc => ?_) (fun hc => ?_)
  · replace h := zif_f hc h
    refine z_aload_n F dX10_clause_22 rfl 1 rfl ?_
    refine zg_10_7 F t0 wF_X10_196 dX10_clause_23 ?_
    refine z_bipush (y := (60 : Int32)) F dX10_clause_26 rfl ?_
    refine z_icmp_eq F 39 dX10_clause_28 rfl (fun hc => ?_) (fun hc => ?_)
    · replace h := zif_t hc h
      refine z_aload_n F dX10_clause_39 rfl 1 rfl ?_
      refine z_iconst (y := (3 : Int32)) F dX10_clause_40 rfl ?_
      refine z_aload_n F dX10_clause_41 rfl 1 rfl ?_
      refine zg_10_4 F t0 wF_X10_143 dX10_clause_42 ?_
      obtain ⟨v_3, hq45, h⟩ := zbindv_ex h
      refine z_callVv F [.int (3 : Int32), .int (v_1 x0 4)] [] (kX10_wrong x.2.1 G x0 t0 (3 : Int32) (v_1 x0 4) v_1 v_3 hq45) mI_X10_wrong (c := 10) rfl t0 wM_X10_163 mi_X10_wrong sl_X10_wrong dX10_clause_45 rfl ⟨Nat.le_of_ble_eq_true rfl, Nat.le_of_ble_eq_true rfl⟩ rfl (Nat.le_of_ble_eq_true rfl) ⟨Nat.zero_le _, Nat.zero_le _⟩ ?_
      refine z_goto F 94 dX10_clause_48 rfl ?_
      refine z_ls [(0, zr G x0), (1, .int r_2)] [1, 0] rfl ?_
      exact jX10_clause_94 x G F hr hk w   x0 t0 r_2 v_3 h
    · replace h := zif_f hc h
      refine z_aload_n F dX10_clause_31 rfl 1 rfl ?_
      refine z_iload_n F dX10_clause_32 rfl 0 rfl ?_
      obtain ⟨r_5, v_4, hq33, h⟩ := zbind_ex h
      refine z_callVi F [.int r_2] [] (kX10_isFull x.2.1 G x0 t0 r_2 v_1 r_5 v_4 hq33) mI_X10_isFull (c := 10) rfl t0 wM_X10_210 mi_X10_isFull sl_X10_isFull dX10_clause_33 rfl ⟨Nat.le_of_ble_eq_true rfl, Nat.le_of_ble_eq_true rfl⟩ rfl (Nat.le_of_ble_eq_true rfl) ⟨Nat.zero_le _, Nat.zero_le _⟩ ?_
      refine z_if_eq F 51 dX10_clause_36 rfl (fun hc => ?_) (fun hc => ?_)
      · replace h := zif_t hc h
        refine z_iload_n F dX10_clause_51 rfl 0 rfl ?_
        refine z_if_ne F 64 dX10_clause_52 rfl (fun hc => ?_) (fun hc => ?_)
        · replace h := zif_f hc h
          refine z_ls [(0, zr G x0), (1, .int r_2)] [1, 0] rfl ?_
          exact jX10_clause_64 x G F hr hk w   x0 t0 r_2 v_4 h
        · replace h := zif_t hc h
          refine z_aload_n F dX10_clause_55 rfl 1 rfl ?_
          refine zg_10_11 F t0 wF_X10_20 dX10_clause_56 ?_
          refine z_iconst (y := (1 : Int32)) F dX10_clause_59 rfl ?_
          obtain ⟨hi60, h⟩ := zix_ex h
          refine z_iald F (zt_f tc_10_11 t0) dX10_clause_60 hi60 ?_
          refine z_if_gt F 85 dX10_clause_61 rfl (fun hc => ?_) (fun hc => ?_)
          · replace h := zif_t hc h
            refine z_aload_n F dX10_clause_85 rfl 1 rfl ?_
            refine z_iconst (y := (4 : Int32)) F dX10_clause_86 rfl ?_
            refine z_aload_n F dX10_clause_87 rfl 1 rfl ?_
            refine zg_10_4 F t0 wF_X10_143 dX10_clause_88 ?_
            obtain ⟨v_6, hq91, h⟩ := zbindv_ex h
            refine z_callVv F [.int (4 : Int32), .int (v_4 x0 4)] [] (kX10_wrong x.2.1 G x0 t0 (4 : Int32) (v_4 x0 4) v_4 v_6 hq91) mI_X10_wrong (c := 10) rfl t0 wM_X10_163 mi_X10_wrong sl_X10_wrong dX10_clause_91 rfl ⟨Nat.le_of_ble_eq_true rfl, Nat.le_of_ble_eq_true rfl⟩ rfl (Nat.le_of_ble_eq_true rfl) ⟨Nat.zero_le _, Nat.zero_le _⟩ ?_
            refine z_ls [(0, zr G x0), (1, .int r_2)] [1, 0] rfl ?_
            exact jX10_clause_94 x G F hr hk w   x0 t0 r_2 v_6 h
          · replace h := zif_f hc h
            refine z_ls [(0, zr G x0), (1, .int r_2)] [1, 0] rfl ?_
            exact jX10_clause_64 x G F hr hk w   x0 t0 r_2 v_4 h
      · replace h := zif_f hc h
        refine z_aload_n F dX10_clause_39 rfl 1 rfl ?_
        refine z_iconst (y := (3 : Int32)) F dX10_clause_40 rfl ?_
        refine z_aload_n F dX10_clause_41 rfl 1 rfl ?_
        refine zg_10_4 F t0 wF_X10_143 dX10_clause_42 ?_
        obtain ⟨v_7, hq45, h⟩ := zbindv_ex h
        refine z_callVv F [.int (3 : Int32), .int (v_4 x0 4)] [] (kX10_wrong x.2.1 G x0 t0 (3 : Int32) (v_4 x0 4) v_4 v_7 hq45) mI_X10_wrong (c := 10) rfl t0 wM_X10_163 mi_X10_wrong sl_X10_wrong dX10_clause_45 rfl ⟨Nat.le_of_ble_eq_true rfl, Nat.le_of_ble_eq_true rfl⟩ rfl (Nat.le_of_ble_eq_true rfl) ⟨Nat.zero_le _, Nat.zero_le _⟩ ?_
        refine z_goto F 94 dX10_clause_48 rfl ?_
        refine z_ls [(0, zr G x0), (1, .int r_2)] [1, 0] rfl ?_
        exact jX10_clause_94 x G F hr hk w   x0 t0 r_2 v_7 h
  · replace h := zif_t hc h
    refine z_aload_n F dX10_clause_10 rfl 1 rfl ?_
    refine z_iconst (y := (1 : Int32)) F dX10_clause_11 rfl ?_
    refine z_aload_n F dX10_clause_12 rfl 1 rfl ?_
    refine zg_10_4 F t0 wF_X10_143 dX10_clause_13 ?_
    obtain ⟨v_8, hq16, h⟩ := zbindv_ex h
    refine z_callVv F [.int (1 : Int32), .int (v_1 x0 4)] [] (kX10_wrong x.2.1 G x0 t0 (1 : Int32) (v_1 x0 4) v_1 v_8 hq16) mI_X10_wrong (c := 10) rfl t0 wM_X10_163 mi_X10_wrong sl_X10_wrong dX10_clause_16 rfl ⟨Nat.le_of_ble_eq_true rfl, Nat.le_of_ble_eq_true rfl⟩ rfl (Nat.le_of_ble_eq_true rfl) ⟨Nat.zero_le _, Nat.zero_le _⟩ ?_
    refine z_goto F 94 dX10_clause_19 rfl ?_
    refine z_ls [(0, zr G x0), (1, .int r_2)] [1, 0] rfl ?_
    exact jX10_clause_94 x G F hr hk w   x0 t0 r_2 v_8 h

theorem dX10_lays_0 : decode cX10_lays 0 = .ok (.iconst 0, 1) := by decide +kernel
theorem dX10_lays_1 : decode cX10_lays 1 = .ok (.istore_n 3, 1) := by decide +kernel
theorem dX10_lays_2 : decode cX10_lays 2 = .ok (.iload_n 3, 1) := by decide +kernel
theorem dX10_lays_3 : decode cX10_lays 3 = .ok (.iload_n 2, 1) := by decide +kernel
theorem dX10_lays_4 : decode cX10_lays 4 = .ok (.if_icmp .ge 39, 3) := by decide +kernel
theorem dX10_lays_7 : decode cX10_lays 7 = .ok (.iconst 0, 1) := by decide +kernel
theorem dX10_lays_8 : decode cX10_lays 8 = .ok (.istore 4, 2) := by decide +kernel
theorem dX10_lays_10 : decode cX10_lays 10 = .ok (.iload 4, 2) := by decide +kernel
theorem dX10_lays_12 : decode cX10_lays 12 = .ok (.aload_n 1, 1) := by decide +kernel
theorem dX10_lays_13 : decode cX10_lays 13 = .ok (.iload_n 3, 1) := by decide +kernel
theorem dX10_lays_14 : decode cX10_lays 14 = .ok (.aaload, 1) := by decide +kernel
theorem dX10_lays_15 : decode cX10_lays 15 = .ok (.arraylength, 1) := by decide +kernel
theorem dX10_lays_16 : decode cX10_lays 16 = .ok (.if_icmp .ge 21, 3) := by decide +kernel
theorem dX10_lays_19 : decode cX10_lays 19 = .ok (.aload_n 1, 1) := by decide +kernel
theorem dX10_lays_20 : decode cX10_lays 20 = .ok (.iload_n 3, 1) := by decide +kernel
theorem dX10_lays_21 : decode cX10_lays 21 = .ok (.aaload, 1) := by decide +kernel
theorem dX10_lays_22 : decode cX10_lays 22 = .ok (.iload 4, 2) := by decide +kernel
theorem dX10_lays_24 : decode cX10_lays 24 = .ok (.aload_n 0, 1) := by decide +kernel
theorem dX10_lays_25 : decode cX10_lays 25 = .ok (.iload_n 3, 1) := by decide +kernel
theorem dX10_lays_26 : decode cX10_lays 26 = .ok (.aaload, 1) := by decide +kernel
theorem dX10_lays_27 : decode cX10_lays 27 = .ok (.iload 4, 2) := by decide +kernel
theorem dX10_lays_29 : decode cX10_lays 29 = .ok (.iaload, 1) := by decide +kernel
theorem dX10_lays_30 : decode cX10_lays 30 = .ok (.iastore, 1) := by decide +kernel
theorem dX10_lays_31 : decode cX10_lays 31 = .ok (.iinc 4 1, 3) := by decide +kernel
theorem dX10_lays_34 : decode cX10_lays 34 = .ok (.goto (-24), 3) := by decide +kernel
theorem dX10_lays_37 : decode cX10_lays 37 = .ok (.iinc 3 1, 3) := by decide +kernel
theorem dX10_lays_40 : decode cX10_lays 40 = .ok (.goto (-38), 3) := by decide +kernel
theorem dX10_lays_43 : decode cX10_lays 43 = .ok (.return_, 1) := by decide +kernel
def fX10_lays_10 (K2 : Nat → Nat → Int32 → Int32 → zV → Option zV) : Nat → Nat → Nat → Int32 → Int32 → Int32 → zV → Option zV
  | 0 => fun _ _ _ _ _ _ => none
  | n + 1 => fun x0 x1 x2 x3 x4 v =>
    zix x3 (zlen x1) <|
    if (Int32.ofNat (zlen (zrf x1 (x3).toNatClampNeg))) ≤ x4 then
      K2 x0 x1 x2 (x3 + (1 : Int32)) v
    else
      zix x3 (zlen x1) <|
      zix x3 (zlen x0) <|
      zix x4 (zlen (zrf x0 (x3).toNatClampNeg)) <|
      zix x4 (zlen (zrf x1 (x3).toNatClampNeg)) <|
      zlet (zup v (zrf x1 (x3).toNatClampNeg) (x4).toNatClampNeg (v (zrf x0 (x3).toNatClampNeg) (x4).toNatClampNeg)) fun v_1 =>
      (fX10_lays_10 K2 n) x0 x1 x2 x3 (x4 + (1 : Int32)) v_1
set_option maxRecDepth 4000 in
theorem jX10_lays_10 (x : zCx) (G : zG) (F : zF x G cX10_lays 5 RX10 1 80) (hr : x.2.2.2.2.2.2.2.2.1.sig.returnType = (Option.none : Option FieldType)) (hk : x.2.2.2.2.2.2.2.2.1.locks = false) (w : zV) (K2 : Nat → Nat → Int32 → Int32 → zV → Option zV) (hK2 : ∀ (x0 : Nat) (t0 : zty G x0 2 3) (x1 : Nat) (t1 : zty G x1 2 3) (x2 : Int32) (x3 : Int32) (v : zV), K2 x0 x1 x2 x3 v = some w → zJ x G 5 (zQ x G none w 0 0) 0 0 2 [(0, zr G x0), (1, zr G x1), (2, .int x2), (3, .int x3)] [] v) : ∀ (n : Nat) (x0 : Nat) (t0 : zty G x0 2 3) (x1 : Nat) (t1 : zty G x1 2 3) (x2 : Int32) (x3 : Int32) (x4 : Int32) (v : zV), fX10_lays_10 K2 n x0 x1 x2 x3 x4 v = some w → zJ x G 5 (zQ x G none w 0 0) 0 0 10 [(0, zr G x0), (1, zr G x1), (2, .int x2), (3, .int x3), (4, .int x4)] [] v := by
  intro n
  induction n with
  | zero => intro x0 t0 x1 t1 x2 x3 x4 v h; exact absurd h (by intro q; cases q)
  | succ n ih =>
    intro x0 t0 x1 t1 x2 x3 x4 v h
    rw [fX10_lays_10] at h
    dsimp only at h
    refine z_iload F dX10_lays_10 4 rfl ?_
    refine z_aload_n F dX10_lays_12 rfl 1 rfl ?_
    refine z_iload_n F dX10_lays_13 rfl 3 rfl ?_
    obtain ⟨hi14, h⟩ := zix_ex h
    refine z_aald3 F t1 dX10_lays_14 hi14 ?_
    refine z_alen0 F (zt_a tcA_3 t1 (zin_lt hi14)) dX10_lays_15 rfl ?_
    refine z_icmp_ge F 37 dX10_lays_16 rfl (fun hc => ?_) (fun hc => ?_)
    · replace h := zif_t hc h
      refine z_iinc F [(3, .int (x3 + (1 : Int32))), (0, zr G x0), (1, zr G x1), (2, .int x2), (4, .int x4)] dX10_lays_37 3 rfl rfl (Nat.le_of_ble_eq_true rfl) rfl ?_
      refine z_goto F 2 dX10_lays_40 rfl ?_
      refine z_ls [(0, zr G x0), (1, zr G x1), (2, .int x2), (3, .int (x3 + (1 : Int32)))] [1, 2, 3, 0] rfl ?_
      exact hK2 x0 t0 x1 t1 x2 (x3 + (1 : Int32)) v h
    · replace h := zif_f hc h
      refine z_aload_n F dX10_lays_19 rfl 1 rfl ?_
      refine z_iload_n F dX10_lays_20 rfl 3 rfl ?_
      obtain ⟨hi21, h⟩ := zix_ex h
      refine z_aald3 F t1 dX10_lays_21 hi21 ?_
      refine z_iload F dX10_lays_22 4 rfl ?_
      refine z_aload_n F dX10_lays_24 rfl 0 rfl ?_
      refine z_iload_n F dX10_lays_25 rfl 3 rfl ?_
      obtain ⟨hi26, h⟩ := zix_ex h
      refine z_aald3 F t0 dX10_lays_26 hi26 ?_
      refine z_iload F dX10_lays_27 4 rfl ?_
      obtain ⟨hi29, h⟩ := zix_ex h
      refine z_iald F (zt_a tcA_3 t0 (zin_lt hi26)) dX10_lays_29 hi29 ?_
      obtain ⟨hi30, h⟩ := zix_ex h
      refine z_iast F (zt_a tcA_3 t1 (zin_lt hi21)) dX10_lays_30 hi30 ?_
      obtain ⟨v_1, ev_1, h⟩ := zlet_ex h
      refine z_heap ev_1 ?_
      refine z_iinc F [(4, .int (x4 + (1 : Int32))), (0, zr G x0), (1, zr G x1), (2, .int x2), (3, .int x3)] dX10_lays_31 4 rfl rfl (Nat.le_of_ble_eq_true rfl) rfl ?_
      refine z_goto F 10 dX10_lays_34 rfl ?_
      refine z_ls [(0, zr G x0), (1, zr G x1), (2, .int x2), (3, .int x3), (4, .int (x4 + (1 : Int32)))] [1, 2, 3, 4, 0] rfl ?_
      exact ih x0 t0 x1 t1 x2 x3 (x4 + (1 : Int32)) v_1 h

def fX10_lays_2  : Nat → Nat → Nat → Int32 → Int32 → zV → Option zV
  | 0 => fun _ _ _ _ _ => none
  | n + 1 => fun x0 x1 x2 x3 v =>
    if x2 ≤ x3 then
      some v
    else
      fX10_lays_10 (fX10_lays_2 n) zFU x0 x1 x2 x3 (0 : Int32) v
set_option maxRecDepth 4000 in
theorem jX10_lays_2 (x : zCx) (G : zG) (F : zF x G cX10_lays 5 RX10 1 80) (hr : x.2.2.2.2.2.2.2.2.1.sig.returnType = (Option.none : Option FieldType)) (hk : x.2.2.2.2.2.2.2.2.1.locks = false) (w : zV)  : ∀ (n : Nat) (x0 : Nat) (t0 : zty G x0 2 3) (x1 : Nat) (t1 : zty G x1 2 3) (x2 : Int32) (x3 : Int32) (v : zV), fX10_lays_2 n x0 x1 x2 x3 v = some w → zJ x G 5 (zQ x G none w 0 0) 0 0 2 [(0, zr G x0), (1, zr G x1), (2, .int x2), (3, .int x3)] [] v := by
  intro n
  induction n with
  | zero => intro x0 t0 x1 t1 x2 x3 v h; exact absurd h (by intro q; cases q)
  | succ n ih =>
    intro x0 t0 x1 t1 x2 x3 v h
    rw [fX10_lays_2] at h
    dsimp only at h
    refine z_iload_n F dX10_lays_2 rfl 3 rfl ?_
    refine z_iload_n F dX10_lays_3 rfl 2 rfl ?_
    refine z_icmp_ge F 43 dX10_lays_4 rfl (fun hc => ?_) (fun hc => ?_)
    · replace h := zif_t hc h
      cases h
      exact z_retv F hr hk dX10_lays_43
    · replace h := zif_f hc h
      refine z_iconst (y := (0 : Int32)) F dX10_lays_7 rfl ?_
      refine z_istore (n := 0) F [(4, .int (0 : Int32)), (0, zr G x0), (1, zr G x1), (2, .int x2), (3, .int x3)] dX10_lays_8 (Nat.le_of_ble_eq_true rfl) rfl ?_
      refine z_ls [(0, zr G x0), (1, zr G x1), (2, .int x2), (3, .int x3), (4, .int (0 : Int32))] [1, 2, 3, 4, 0] rfl ?_
      exact jX10_lays_10 x G F hr hk w (fX10_lays_2 n) ih zFU x0 t0 x1 t1 x2 x3 (0 : Int32) v h

def fX10_lays (x0 : Nat) (x1 : Nat) (x2 : Int32) (v : zV) : Option zV :=
  fX10_lays_2  zFU x0 x1 x2 (0 : Int32) v
set_option maxRecDepth 4000 in
theorem kX10_lays (l : Launch) (G : zG) (x0 : Nat) (t0 : zty G x0 2 3) (x1 : Nat) (t1 : zty G x1 2 3) (x2 : Int32) (v : zV) (w : zV) (h : fX10_lays x0 x1 x2 v = some w) : zMet l yX10_lays cX10_lays 5 (Option.none : Option FieldType) 1 80 0 0 [zr G x0, zr G x1, .int x2] G v none w := by
  refine zM_of (own := RX10) (by decide) rfl (Nat.le_of_ble_eq_true rfl) (fun x hl F hr hk hcs => ?_)
  subst hl
  refine z_ls [(0, zr G x0), (1, zr G x1), (2, .int x2)] [0, 1, 2] rfl ?_
  unfold fX10_lays at h
  refine z_iconst (y := (0 : Int32)) F dX10_lays_0 rfl ?_
  refine z_istore_n F [(3, .int (0 : Int32)), (0, zr G x0), (1, zr G x1), (2, .int x2)] dX10_lays_1 rfl (Nat.le_of_ble_eq_true rfl) rfl ?_
  refine z_ls [(0, zr G x0), (1, zr G x1), (2, .int x2), (3, .int (0 : Int32))] [1, 2, 3, 0] rfl ?_
  exact jX10_lays_2 x G F hr hk w   zFU x0 t0 x1 t1 x2 (0 : Int32) v h

theorem dX10_copies_0 : decode cX10_copies 0 = .ok (.iconst 0, 1) := by decide +kernel
theorem dX10_copies_1 : decode cX10_copies 1 = .ok (.istore_n 2, 1) := by decide +kernel
theorem dX10_copies_2 : decode cX10_copies 2 = .ok (.iload_n 2, 1) := by decide +kernel
theorem dX10_copies_3 : decode cX10_copies 3 = .ok (.sipush 305, 3) := by decide +kernel
theorem dX10_copies_6 : decode cX10_copies 6 = .ok (.if_icmp .ge 15, 3) := by decide +kernel
theorem dX10_copies_9 : decode cX10_copies 9 = .ok (.aload_n 1, 1) := by decide +kernel
theorem dX10_copies_10 : decode cX10_copies 10 = .ok (.iload_n 2, 1) := by decide +kernel
theorem dX10_copies_11 : decode cX10_copies 11 = .ok (.aload_n 0, 1) := by decide +kernel
theorem dX10_copies_12 : decode cX10_copies 12 = .ok (.iload_n 2, 1) := by decide +kernel
theorem dX10_copies_13 : decode cX10_copies 13 = .ok (.iaload, 1) := by decide +kernel
theorem dX10_copies_14 : decode cX10_copies 14 = .ok (.iastore, 1) := by decide +kernel
theorem dX10_copies_15 : decode cX10_copies 15 = .ok (.iinc 2 1, 3) := by decide +kernel
theorem dX10_copies_18 : decode cX10_copies 18 = .ok (.goto (-16), 3) := by decide +kernel
theorem dX10_copies_21 : decode cX10_copies 21 = .ok (.return_, 1) := by decide +kernel
def fX10_copies_2  : Nat → Nat → Nat → Int32 → zV → Option zV
  | 0 => fun _ _ _ _ => none
  | n + 1 => fun x0 x1 x2 v =>
    if (305 : Int32) ≤ x2 then
      some v
    else
      zix x2 (zlen x0) <|
      zix x2 (zlen x1) <|
      zlet (zup v x1 (x2).toNatClampNeg (v x0 (x2).toNatClampNeg)) fun v_1 =>
      (fX10_copies_2 n) x0 x1 (x2 + (1 : Int32)) v_1
set_option maxRecDepth 4000 in
theorem jX10_copies_2 (x : zCx) (G : zG) (F : zF x G cX10_copies 3 RX10 1 80) (hr : x.2.2.2.2.2.2.2.2.1.sig.returnType = (Option.none : Option FieldType)) (hk : x.2.2.2.2.2.2.2.2.1.locks = false) (w : zV)  : ∀ (n : Nat) (x0 : Nat) (t0 : zty G x0 2 0) (x1 : Nat) (t1 : zty G x1 2 0) (x2 : Int32) (v : zV), fX10_copies_2 n x0 x1 x2 v = some w → zJ x G 3 (zQ x G none w 0 0) 0 0 2 [(0, zr G x0), (1, zr G x1), (2, .int x2)] [] v := by
  intro n
  induction n with
  | zero => intro x0 t0 x1 t1 x2 v h; exact absurd h (by intro q; cases q)
  | succ n ih =>
    intro x0 t0 x1 t1 x2 v h
    rw [fX10_copies_2] at h
    dsimp only at h
    refine z_iload_n F dX10_copies_2 rfl 2 rfl ?_
    refine z_sipush (y := (305 : Int32)) F dX10_copies_3 rfl ?_
    refine z_icmp_ge F 21 dX10_copies_6 rfl (fun hc => ?_) (fun hc => ?_)
    · replace h := zif_t hc h
      cases h
      exact z_retv F hr hk dX10_copies_21
    · replace h := zif_f hc h
      refine z_aload_n F dX10_copies_9 rfl 1 rfl ?_
      refine z_iload_n F dX10_copies_10 rfl 2 rfl ?_
      refine z_aload_n F dX10_copies_11 rfl 0 rfl ?_
      refine z_iload_n F dX10_copies_12 rfl 2 rfl ?_
      obtain ⟨hi13, h⟩ := zix_ex h
      refine z_iald F t0 dX10_copies_13 hi13 ?_
      obtain ⟨hi14, h⟩ := zix_ex h
      refine z_iast F t1 dX10_copies_14 hi14 ?_
      obtain ⟨v_1, ev_1, h⟩ := zlet_ex h
      refine z_heap ev_1 ?_
      refine z_iinc F [(2, .int (x2 + (1 : Int32))), (0, zr G x0), (1, zr G x1)] dX10_copies_15 2 rfl rfl (Nat.le_of_ble_eq_true rfl) rfl ?_
      refine z_goto F 2 dX10_copies_18 rfl ?_
      refine z_ls [(0, zr G x0), (1, zr G x1), (2, .int (x2 + (1 : Int32)))] [1, 2, 0] rfl ?_
      exact ih x0 t0 x1 t1 (x2 + (1 : Int32)) v_1 h

def fX10_copies (x0 : Nat) (x1 : Nat) (v : zV) : Option zV :=
  fX10_copies_2  zFU x0 x1 (0 : Int32) v
set_option maxRecDepth 4000 in
theorem kX10_copies (l : Launch) (G : zG) (x0 : Nat) (t0 : zty G x0 2 0) (x1 : Nat) (t1 : zty G x1 2 0) (v : zV) (w : zV) (h : fX10_copies x0 x1 v = some w) : zMet l yX10_copies cX10_copies 3 (Option.none : Option FieldType) 1 80 0 0 [zr G x0, zr G x1] G v none w := by
  refine zM_of (own := RX10) (by decide) rfl (Nat.le_of_ble_eq_true rfl) (fun x hl F hr hk hcs => ?_)
  subst hl
  refine z_ls [(0, zr G x0), (1, zr G x1)] [0, 1] rfl ?_
  unfold fX10_copies at h
  refine z_iconst (y := (0 : Int32)) F dX10_copies_0 rfl ?_
  refine z_istore_n F [(2, .int (0 : Int32)), (0, zr G x0), (1, zr G x1)] dX10_copies_1 rfl (Nat.le_of_ble_eq_true rfl) rfl ?_
  refine z_ls [(0, zr G x0), (1, zr G x1), (2, .int (0 : Int32))] [1, 2, 0] rfl ?_
  exact jX10_copies_2 x G F hr hk w   zFU x0 t0 x1 t1 (0 : Int32) v h

theorem dX10_settles_0 : decode cX10_settles 0 = .ok (.aload_n 0, 1) := by decide +kernel
theorem dX10_settles_1 : decode cX10_settles 1 = .ok (.getfield 85, 3) := by decide +kernel
theorem dX10_settles_4 : decode cX10_settles 4 = .ok (.aload_n 0, 1) := by decide +kernel
theorem dX10_settles_5 : decode cX10_settles 5 = .ok (.getfield 88, 3) := by decide +kernel
theorem dX10_settles_8 : decode cX10_settles 8 = .ok (.invokestatic 237, 3) := by decide +kernel
theorem dX10_settles_11 : decode cX10_settles 11 = .ok (.aload_n 0, 1) := by decide +kernel
theorem dX10_settles_12 : decode cX10_settles 12 = .ok (.iconst 0, 1) := by decide +kernel
theorem dX10_settles_13 : decode cX10_settles 13 = .ok (.putfield 253, 3) := by decide +kernel
theorem dX10_settles_16 : decode cX10_settles 16 = .ok (.return_, 1) := by decide +kernel
def fX10_settles (x0 : Nat) (v : zV) : Option zV :=
  zbindv (fX10_copies (zrf x0 35) (zrf x0 36) v) fun v_1 =>
  zlet (zup v_1 x0 41 (0 : Int32)) fun v_2 =>
  some v_2
set_option maxRecDepth 4000 in
theorem kX10_settles (l : Launch) (G : zG) (x0 : Nat) (t0 : zty G x0 1 10) (v : zV) (w : zV) (h : fX10_settles x0 v = some w) : zMet l yX10_settles cX10_settles 1 (Option.none : Option FieldType) 2 102 0 0 [zr G x0] G v none w := by
  refine zM_of (own := RX10) (by decide) rfl (Nat.le_of_ble_eq_true rfl) (fun x hl F hr hk hcs => ?_)
  subst hl
  refine z_ls [(0, zr G x0)] [0] rfl ?_
  unfold fX10_settles at h
  refine z_aload_n F dX10_settles_0 rfl 0 rfl ?_
  refine zg_10_35 F t0 wF_X10_85 dX10_settles_1 ?_
  refine z_aload_n F dX10_settles_4 rfl 0 rfl ?_
  refine zg_10_36 F t0 wF_X10_88 dX10_settles_5 ?_
  obtain ⟨v_1, hq8, h⟩ := zbindv_ex h
  refine z_callSv F [zr G (zrf x0 35), zr G (zrf x0 36)] [] (kX10_copies x.2.1 G (zrf x0 35) (zt_f tc_10_35 t0) (zrf x0 36) (zt_f tc_10_36 t0) v v_1 hq8) mI_X10_copies wM_X10_237 ms_X10_copies dX10_settles_8 rfl ⟨Nat.le_of_ble_eq_true rfl, Nat.le_of_ble_eq_true rfl⟩ rfl (Nat.le_of_ble_eq_true rfl) ⟨Nat.zero_le _, Nat.zero_le _⟩ ?_
  refine z_aload_n F dX10_settles_11 rfl 0 rfl ?_
  refine z_iconst (y := (0 : Int32)) F dX10_settles_12 rfl ?_
  refine zp_10_41 F t0 wF_X10_253 dX10_settles_13 ?_
  obtain ⟨v_2, ev_2, h⟩ := zlet_ex h
  refine z_heap ev_2 ?_
  cases h
  exact z_retv F hr hk dX10_settles_16

theorem dX10_stands_0 : decode cX10_stands 0 = .ok (.iconst 0, 1) := by decide +kernel
theorem dX10_stands_1 : decode cX10_stands 1 = .ok (.istore_n 1, 1) := by decide +kernel
theorem dX10_stands_2 : decode cX10_stands 2 = .ok (.iload_n 1, 1) := by decide +kernel
theorem dX10_stands_3 : decode cX10_stands 3 = .ok (.bipush 6, 2) := by decide +kernel
theorem dX10_stands_5 : decode cX10_stands 5 = .ok (.if_icmp .ge 21, 3) := by decide +kernel
theorem dX10_stands_8 : decode cX10_stands 8 = .ok (.aload_n 0, 1) := by decide +kernel
theorem dX10_stands_9 : decode cX10_stands 9 = .ok (.getfield 23, 3) := by decide +kernel
theorem dX10_stands_12 : decode cX10_stands 12 = .ok (.iload_n 1, 1) := by decide +kernel
theorem dX10_stands_13 : decode cX10_stands 13 = .ok (.aload_n 0, 1) := by decide +kernel
theorem dX10_stands_14 : decode cX10_stands 14 = .ok (.getfield 20, 3) := by decide +kernel
theorem dX10_stands_17 : decode cX10_stands 17 = .ok (.iload_n 1, 1) := by decide +kernel
theorem dX10_stands_18 : decode cX10_stands 18 = .ok (.iaload, 1) := by decide +kernel
theorem dX10_stands_19 : decode cX10_stands 19 = .ok (.iastore, 1) := by decide +kernel
theorem dX10_stands_20 : decode cX10_stands 20 = .ok (.iinc 1 1, 3) := by decide +kernel
theorem dX10_stands_23 : decode cX10_stands 23 = .ok (.goto (-21), 3) := by decide +kernel
theorem dX10_stands_26 : decode cX10_stands 26 = .ok (.iconst 0, 1) := by decide +kernel
theorem dX10_stands_27 : decode cX10_stands 27 = .ok (.istore_n 1, 1) := by decide +kernel
theorem dX10_stands_28 : decode cX10_stands 28 = .ok (.iload_n 1, 1) := by decide +kernel
theorem dX10_stands_29 : decode cX10_stands 29 = .ok (.aload_n 0, 1) := by decide +kernel
theorem dX10_stands_30 : decode cX10_stands 30 = .ok (.getfield 23, 3) := by decide +kernel
theorem dX10_stands_33 : decode cX10_stands 33 = .ok (.iconst 0, 1) := by decide +kernel
theorem dX10_stands_34 : decode cX10_stands 34 = .ok (.iaload, 1) := by decide +kernel
theorem dX10_stands_35 : decode cX10_stands 35 = .ok (.if_icmp .ge 21, 3) := by decide +kernel
theorem dX10_stands_38 : decode cX10_stands 38 = .ok (.aload_n 0, 1) := by decide +kernel
theorem dX10_stands_39 : decode cX10_stands 39 = .ok (.getfield 29, 3) := by decide +kernel
theorem dX10_stands_42 : decode cX10_stands 42 = .ok (.iload_n 1, 1) := by decide +kernel
theorem dX10_stands_43 : decode cX10_stands 43 = .ok (.aload_n 0, 1) := by decide +kernel
theorem dX10_stands_44 : decode cX10_stands 44 = .ok (.getfield 26, 3) := by decide +kernel
theorem dX10_stands_47 : decode cX10_stands 47 = .ok (.iload_n 1, 1) := by decide +kernel
theorem dX10_stands_48 : decode cX10_stands 48 = .ok (.iaload, 1) := by decide +kernel
theorem dX10_stands_49 : decode cX10_stands 49 = .ok (.iastore, 1) := by decide +kernel
theorem dX10_stands_50 : decode cX10_stands 50 = .ok (.iinc 1 1, 3) := by decide +kernel
theorem dX10_stands_53 : decode cX10_stands 53 = .ok (.goto (-25), 3) := by decide +kernel
theorem dX10_stands_56 : decode cX10_stands 56 = .ok (.iconst 0, 1) := by decide +kernel
theorem dX10_stands_57 : decode cX10_stands 57 = .ok (.istore_n 1, 1) := by decide +kernel
theorem dX10_stands_58 : decode cX10_stands 58 = .ok (.iload_n 1, 1) := by decide +kernel
theorem dX10_stands_59 : decode cX10_stands 59 = .ok (.aload_n 0, 1) := by decide +kernel
theorem dX10_stands_60 : decode cX10_stands 60 = .ok (.getfield 23, 3) := by decide +kernel
theorem dX10_stands_63 : decode cX10_stands 63 = .ok (.iconst 1, 1) := by decide +kernel
theorem dX10_stands_64 : decode cX10_stands 64 = .ok (.iaload, 1) := by decide +kernel
theorem dX10_stands_65 : decode cX10_stands 65 = .ok (.if_icmp .ge 21, 3) := by decide +kernel
theorem dX10_stands_68 : decode cX10_stands 68 = .ok (.aload_n 0, 1) := by decide +kernel
theorem dX10_stands_69 : decode cX10_stands 69 = .ok (.getfield 35, 3) := by decide +kernel
theorem dX10_stands_72 : decode cX10_stands 72 = .ok (.iload_n 1, 1) := by decide +kernel
theorem dX10_stands_73 : decode cX10_stands 73 = .ok (.aload_n 0, 1) := by decide +kernel
theorem dX10_stands_74 : decode cX10_stands 74 = .ok (.getfield 32, 3) := by decide +kernel
theorem dX10_stands_77 : decode cX10_stands 77 = .ok (.iload_n 1, 1) := by decide +kernel
theorem dX10_stands_78 : decode cX10_stands 78 = .ok (.iaload, 1) := by decide +kernel
theorem dX10_stands_79 : decode cX10_stands 79 = .ok (.iastore, 1) := by decide +kernel
theorem dX10_stands_80 : decode cX10_stands 80 = .ok (.iinc 1 1, 3) := by decide +kernel
theorem dX10_stands_83 : decode cX10_stands 83 = .ok (.goto (-25), 3) := by decide +kernel
theorem dX10_stands_86 : decode cX10_stands 86 = .ok (.iconst 0, 1) := by decide +kernel
theorem dX10_stands_87 : decode cX10_stands 87 = .ok (.istore_n 1, 1) := by decide +kernel
theorem dX10_stands_88 : decode cX10_stands 88 = .ok (.iload_n 1, 1) := by decide +kernel
theorem dX10_stands_89 : decode cX10_stands 89 = .ok (.aload_n 0, 1) := by decide +kernel
theorem dX10_stands_90 : decode cX10_stands 90 = .ok (.getfield 23, 3) := by decide +kernel
theorem dX10_stands_93 : decode cX10_stands 93 = .ok (.iconst 3, 1) := by decide +kernel
theorem dX10_stands_94 : decode cX10_stands 94 = .ok (.iaload, 1) := by decide +kernel
theorem dX10_stands_95 : decode cX10_stands 95 = .ok (.if_icmp .ge 21, 3) := by decide +kernel
theorem dX10_stands_98 : decode cX10_stands 98 = .ok (.aload_n 0, 1) := by decide +kernel
theorem dX10_stands_99 : decode cX10_stands 99 = .ok (.getfield 41, 3) := by decide +kernel
theorem dX10_stands_102 : decode cX10_stands 102 = .ok (.iload_n 1, 1) := by decide +kernel
theorem dX10_stands_103 : decode cX10_stands 103 = .ok (.aload_n 0, 1) := by decide +kernel
theorem dX10_stands_104 : decode cX10_stands 104 = .ok (.getfield 38, 3) := by decide +kernel
theorem dX10_stands_107 : decode cX10_stands 107 = .ok (.iload_n 1, 1) := by decide +kernel
theorem dX10_stands_108 : decode cX10_stands 108 = .ok (.iaload, 1) := by decide +kernel
theorem dX10_stands_109 : decode cX10_stands 109 = .ok (.iastore, 1) := by decide +kernel
theorem dX10_stands_110 : decode cX10_stands 110 = .ok (.iinc 1 1, 3) := by decide +kernel
theorem dX10_stands_113 : decode cX10_stands 113 = .ok (.goto (-25), 3) := by decide +kernel
theorem dX10_stands_116 : decode cX10_stands 116 = .ok (.aload_n 0, 1) := by decide +kernel
theorem dX10_stands_117 : decode cX10_stands 117 = .ok (.getfield 46, 3) := by decide +kernel
theorem dX10_stands_120 : decode cX10_stands 120 = .ok (.aload_n 0, 1) := by decide +kernel
theorem dX10_stands_121 : decode cX10_stands 121 = .ok (.getfield 49, 3) := by decide +kernel
theorem dX10_stands_124 : decode cX10_stands 124 = .ok (.aload_n 0, 1) := by decide +kernel
theorem dX10_stands_125 : decode cX10_stands 125 = .ok (.getfield 23, 3) := by decide +kernel
theorem dX10_stands_128 : decode cX10_stands 128 = .ok (.iconst 1, 1) := by decide +kernel
theorem dX10_stands_129 : decode cX10_stands 129 = .ok (.iaload, 1) := by decide +kernel
theorem dX10_stands_130 : decode cX10_stands 130 = .ok (.invokestatic 233, 3) := by decide +kernel
theorem dX10_stands_133 : decode cX10_stands 133 = .ok (.aload_n 0, 1) := by decide +kernel
theorem dX10_stands_134 : decode cX10_stands 134 = .ok (.getfield 52, 3) := by decide +kernel
theorem dX10_stands_137 : decode cX10_stands 137 = .ok (.aload_n 0, 1) := by decide +kernel
theorem dX10_stands_138 : decode cX10_stands 138 = .ok (.getfield 55, 3) := by decide +kernel
theorem dX10_stands_141 : decode cX10_stands 141 = .ok (.aload_n 0, 1) := by decide +kernel
theorem dX10_stands_142 : decode cX10_stands 142 = .ok (.getfield 23, 3) := by decide +kernel
theorem dX10_stands_145 : decode cX10_stands 145 = .ok (.iconst 4, 1) := by decide +kernel
theorem dX10_stands_146 : decode cX10_stands 146 = .ok (.iaload, 1) := by decide +kernel
theorem dX10_stands_147 : decode cX10_stands 147 = .ok (.invokestatic 233, 3) := by decide +kernel
theorem dX10_stands_150 : decode cX10_stands 150 = .ok (.aload_n 0, 1) := by decide +kernel
theorem dX10_stands_151 : decode cX10_stands 151 = .ok (.getfield 58, 3) := by decide +kernel
theorem dX10_stands_154 : decode cX10_stands 154 = .ok (.aload_n 0, 1) := by decide +kernel
theorem dX10_stands_155 : decode cX10_stands 155 = .ok (.getfield 61, 3) := by decide +kernel
theorem dX10_stands_158 : decode cX10_stands 158 = .ok (.aload_n 0, 1) := by decide +kernel
theorem dX10_stands_159 : decode cX10_stands 159 = .ok (.getfield 23, 3) := by decide +kernel
theorem dX10_stands_162 : decode cX10_stands 162 = .ok (.iconst 5, 1) := by decide +kernel
theorem dX10_stands_163 : decode cX10_stands 163 = .ok (.iaload, 1) := by decide +kernel
theorem dX10_stands_164 : decode cX10_stands 164 = .ok (.invokestatic 233, 3) := by decide +kernel
theorem dX10_stands_167 : decode cX10_stands 167 = .ok (.iconst 0, 1) := by decide +kernel
theorem dX10_stands_168 : decode cX10_stands 168 = .ok (.istore_n 1, 1) := by decide +kernel
theorem dX10_stands_169 : decode cX10_stands 169 = .ok (.iload_n 1, 1) := by decide +kernel
theorem dX10_stands_170 : decode cX10_stands 170 = .ok (.sipush 305, 3) := by decide +kernel
theorem dX10_stands_173 : decode cX10_stands 173 = .ok (.if_icmp .ge 42, 3) := by decide +kernel
theorem dX10_stands_176 : decode cX10_stands 176 = .ok (.aload_n 0, 1) := by decide +kernel
theorem dX10_stands_177 : decode cX10_stands 177 = .ok (.getfield 91, 3) := by decide +kernel
theorem dX10_stands_180 : decode cX10_stands 180 = .ok (.iload_n 1, 1) := by decide +kernel
theorem dX10_stands_181 : decode cX10_stands 181 = .ok (.iload_n 1, 1) := by decide +kernel
theorem dX10_stands_182 : decode cX10_stands 182 = .ok (.bipush 32, 2) := by decide +kernel
theorem dX10_stands_184 : decode cX10_stands 184 = .ok (.bipush 47, 2) := by decide +kernel
theorem dX10_stands_186 : decode cX10_stands 186 = .ok (.invokestatic 168, 3) := by decide +kernel
theorem dX10_stands_189 : decode cX10_stands 189 = .ok (.ifCond .eq 7, 3) := by decide +kernel
theorem dX10_stands_192 : decode cX10_stands 192 = .ok (.iconst (-1), 1) := by decide +kernel
theorem dX10_stands_193 : decode cX10_stands 193 = .ok (.goto 15, 3) := by decide +kernel
theorem dX10_stands_196 : decode cX10_stands 196 = .ok (.iload_n 1, 1) := by decide +kernel
theorem dX10_stands_197 : decode cX10_stands 197 = .ok (.bipush 104, 2) := by decide +kernel
theorem dX10_stands_199 : decode cX10_stands 199 = .ok (.if_icmp .lt 8, 3) := by decide +kernel
theorem dX10_stands_202 : decode cX10_stands 202 = .ok (.bipush (-2), 2) := by decide +kernel
theorem dX10_stands_204 : decode cX10_stands 204 = .ok (.goto 4, 3) := by decide +kernel
theorem dX10_stands_207 : decode cX10_stands 207 = .ok (.iconst 0, 1) := by decide +kernel
theorem dX10_stands_208 : decode cX10_stands 208 = .ok (.iastore, 1) := by decide +kernel
theorem dX10_stands_209 : decode cX10_stands 209 = .ok (.iinc 1 1, 3) := by decide +kernel
theorem dX10_stands_212 : decode cX10_stands 212 = .ok (.goto (-43), 3) := by decide +kernel
theorem dX10_stands_215 : decode cX10_stands 215 = .ok (.iconst 0, 1) := by decide +kernel
theorem dX10_stands_216 : decode cX10_stands 216 = .ok (.istore_n 1, 1) := by decide +kernel
theorem dX10_stands_217 : decode cX10_stands 217 = .ok (.iload_n 1, 1) := by decide +kernel
theorem dX10_stands_218 : decode cX10_stands 218 = .ok (.aload_n 0, 1) := by decide +kernel
theorem dX10_stands_219 : decode cX10_stands 219 = .ok (.getfield 23, 3) := by decide +kernel
theorem dX10_stands_222 : decode cX10_stands 222 = .ok (.iconst 3, 1) := by decide +kernel
theorem dX10_stands_223 : decode cX10_stands 223 = .ok (.iaload, 1) := by decide +kernel
theorem dX10_stands_224 : decode cX10_stands 224 = .ok (.if_icmp .ge 53, 3) := by decide +kernel
theorem dX10_stands_227 : decode cX10_stands 227 = .ok (.aload_n 0, 1) := by decide +kernel
theorem dX10_stands_228 : decode cX10_stands 228 = .ok (.getfield 91, 3) := by decide +kernel
theorem dX10_stands_231 : decode cX10_stands 231 = .ok (.bipush 48, 2) := by decide +kernel
theorem dX10_stands_233 : decode cX10_stands 233 = .ok (.iload_n 1, 1) := by decide +kernel
theorem dX10_stands_234 : decode cX10_stands 234 = .ok (.iadd, 1) := by decide +kernel
theorem dX10_stands_235 : decode cX10_stands 235 = .ok (.aload_n 0, 1) := by decide +kernel
theorem dX10_stands_236 : decode cX10_stands 236 = .ok (.getfield 41, 3) := by decide +kernel
theorem dX10_stands_239 : decode cX10_stands 239 = .ok (.iload_n 1, 1) := by decide +kernel
theorem dX10_stands_240 : decode cX10_stands 240 = .ok (.iaload, 1) := by decide +kernel
theorem dX10_stands_241 : decode cX10_stands 241 = .ok (.iastore, 1) := by decide +kernel
theorem dX10_stands_242 : decode cX10_stands 242 = .ok (.aload_n 0, 1) := by decide +kernel
theorem dX10_stands_243 : decode cX10_stands 243 = .ok (.getfield 91, 3) := by decide +kernel
theorem dX10_stands_246 : decode cX10_stands 246 = .ok (.iconst 0, 1) := by decide +kernel
theorem dX10_stands_247 : decode cX10_stands 247 = .ok (.aload_n 0, 1) := by decide +kernel
theorem dX10_stands_248 : decode cX10_stands 248 = .ok (.getfield 41, 3) := by decide +kernel
theorem dX10_stands_251 : decode cX10_stands 251 = .ok (.iload_n 1, 1) := by decide +kernel
theorem dX10_stands_252 : decode cX10_stands 252 = .ok (.iaload, 1) := by decide +kernel
theorem dX10_stands_253 : decode cX10_stands 253 = .ok (.iadd, 1) := by decide +kernel
theorem dX10_stands_254 : decode cX10_stands 254 = .ok (.iconst 1, 1) := by decide +kernel
theorem dX10_stands_255 : decode cX10_stands 255 = .ok (.iastore, 1) := by decide +kernel
theorem dX10_stands_256 : decode cX10_stands 256 = .ok (.aload_n 0, 1) := by decide +kernel
theorem dX10_stands_257 : decode cX10_stands 257 = .ok (.getfield 91, 3) := by decide +kernel
theorem dX10_stands_260 : decode cX10_stands 260 = .ok (.bipush 32, 2) := by decide +kernel
theorem dX10_stands_262 : decode cX10_stands 262 = .ok (.aload_n 0, 1) := by decide +kernel
theorem dX10_stands_263 : decode cX10_stands 263 = .ok (.getfield 41, 3) := by decide +kernel
theorem dX10_stands_266 : decode cX10_stands 266 = .ok (.iload_n 1, 1) := by decide +kernel
theorem dX10_stands_267 : decode cX10_stands 267 = .ok (.iaload, 1) := by decide +kernel
theorem dX10_stands_268 : decode cX10_stands 268 = .ok (.iadd, 1) := by decide +kernel
theorem dX10_stands_269 : decode cX10_stands 269 = .ok (.iconst 0, 1) := by decide +kernel
theorem dX10_stands_270 : decode cX10_stands 270 = .ok (.iastore, 1) := by decide +kernel
theorem dX10_stands_271 : decode cX10_stands 271 = .ok (.iinc 1 1, 3) := by decide +kernel
theorem dX10_stands_274 : decode cX10_stands 274 = .ok (.goto (-57), 3) := by decide +kernel
theorem dX10_stands_277 : decode cX10_stands 277 = .ok (.aload_n 0, 1) := by decide +kernel
theorem dX10_stands_278 : decode cX10_stands 278 = .ok (.getfield 91, 3) := by decide +kernel
theorem dX10_stands_281 : decode cX10_stands 281 = .ok (.bipush 61, 2) := by decide +kernel
theorem dX10_stands_283 : decode cX10_stands 283 = .ok (.aload_n 0, 1) := by decide +kernel
theorem dX10_stands_284 : decode cX10_stands 284 = .ok (.getfield 23, 3) := by decide +kernel
theorem dX10_stands_287 : decode cX10_stands 287 = .ok (.iconst 3, 1) := by decide +kernel
theorem dX10_stands_288 : decode cX10_stands 288 = .ok (.iaload, 1) := by decide +kernel
theorem dX10_stands_289 : decode cX10_stands 289 = .ok (.iastore, 1) := by decide +kernel
theorem dX10_stands_290 : decode cX10_stands 290 = .ok (.aload_n 0, 1) := by decide +kernel
theorem dX10_stands_291 : decode cX10_stands 291 = .ok (.getfield 91, 3) := by decide +kernel
theorem dX10_stands_294 : decode cX10_stands 294 = .ok (.bipush 99, 2) := by decide +kernel
theorem dX10_stands_296 : decode cX10_stands 296 = .ok (.iconst 1, 1) := by decide +kernel
theorem dX10_stands_297 : decode cX10_stands 297 = .ok (.iastore, 1) := by decide +kernel
theorem dX10_stands_298 : decode cX10_stands 298 = .ok (.aload_n 0, 1) := by decide +kernel
theorem dX10_stands_299 : decode cX10_stands 299 = .ok (.getfield 91, 3) := by decide +kernel
theorem dX10_stands_302 : decode cX10_stands 302 = .ok (.aload_n 0, 1) := by decide +kernel
theorem dX10_stands_303 : decode cX10_stands 303 = .ok (.getfield 85, 3) := by decide +kernel
theorem dX10_stands_306 : decode cX10_stands 306 = .ok (.invokestatic 237, 3) := by decide +kernel
theorem dX10_stands_309 : decode cX10_stands 309 = .ok (.aload_n 0, 1) := by decide +kernel
theorem dX10_stands_310 : decode cX10_stands 310 = .ok (.iconst 0, 1) := by decide +kernel
theorem dX10_stands_311 : decode cX10_stands 311 = .ok (.putfield 241, 3) := by decide +kernel
theorem dX10_stands_314 : decode cX10_stands 314 = .ok (.aload_n 0, 1) := by decide +kernel
theorem dX10_stands_315 : decode cX10_stands 315 = .ok (.iconst 0, 1) := by decide +kernel
theorem dX10_stands_316 : decode cX10_stands 316 = .ok (.putfield 244, 3) := by decide +kernel
theorem dX10_stands_319 : decode cX10_stands 319 = .ok (.aload_n 0, 1) := by decide +kernel
theorem dX10_stands_320 : decode cX10_stands 320 = .ok (.iconst 0, 1) := by decide +kernel
theorem dX10_stands_321 : decode cX10_stands 321 = .ok (.putfield 247, 3) := by decide +kernel
theorem dX10_stands_324 : decode cX10_stands 324 = .ok (.aload_n 0, 1) := by decide +kernel
theorem dX10_stands_325 : decode cX10_stands 325 = .ok (.invokevirtual 250, 3) := by decide +kernel
theorem dX10_stands_328 : decode cX10_stands 328 = .ok (.return_, 1) := by decide +kernel
def fX10_stands_277  (x0 : Nat) (v : zV) : Option zV :=
  zix (3 : Int32) (zlen (zrf x0 12)) <|
  zix (61 : Int32) (zlen (zrf x0 37)) <|
  zlet (zup v (zrf x0 37) ((61 : Int32)).toNatClampNeg (v (zrf x0 12) ((3 : Int32)).toNatClampNeg)) fun v_1 =>
  zix (99 : Int32) (zlen (zrf x0 37)) <|
  zlet (zup v_1 (zrf x0 37) ((99 : Int32)).toNatClampNeg (1 : Int32)) fun v_2 =>
  zbindv (fX10_copies (zrf x0 37) (zrf x0 35) v_2) fun v_3 =>
  zlet (zup v_3 x0 26 (0 : Int32)) fun v_4 =>
  zlet (zup v_4 x0 40 (0 : Int32)) fun v_5 =>
  zlet (zup v_5 x0 42 (0 : Int32)) fun v_6 =>
  zbindv (fX10_settles x0 v_6) fun v_7 =>
  some v_7
set_option maxRecDepth 4000 in
theorem jX10_stands_277 (x : zCx) (G : zG) (F : zF x G cX10_stands 2 RX10 3 122) (hr : x.2.2.2.2.2.2.2.2.1.sig.returnType = (Option.none : Option FieldType)) (hk : x.2.2.2.2.2.2.2.2.1.locks = false) (w : zV)  : ∀ (x0 : Nat) (t0 : zty G x0 1 10) (v : zV), fX10_stands_277 x0 v = some w → zJ x G 2 (zQ x G none w 0 0) 0 0 277 [(0, zr G x0)] [] v := by
  intro x0 t0 v h
  unfold fX10_stands_277 at h
  refine z_aload_n F dX10_stands_277 rfl 0 rfl ?_
  refine zg_10_37 F t0 wF_X10_91 dX10_stands_278 ?_
  refine z_bipush (y := (61 : Int32)) F dX10_stands_281 rfl ?_
  refine z_aload_n F dX10_stands_283 rfl 0 rfl ?_
  refine zg_10_12 F t0 wF_X10_23 dX10_stands_284 ?_
  refine z_iconst (y := (3 : Int32)) F dX10_stands_287 rfl ?_
  obtain ⟨hi288, h⟩ := zix_ex h
  refine z_iald F (zt_f tc_10_12 t0) dX10_stands_288 hi288 ?_
  obtain ⟨hi289, h⟩ := zix_ex h
  refine z_iast F (zt_f tc_10_37 t0) dX10_stands_289 hi289 ?_
  obtain ⟨v_1, ev_1, h⟩ := zlet_ex h
  refine z_heap ev_1 ?_
  refine z_aload_n F dX10_stands_290 rfl 0 rfl ?_
  refine zg_10_37 F t0 wF_X10_91 dX10_stands_291 ?_
  refine z_bipush (y := (99 : Int32)) F dX10_stands_294 rfl ?_
  refine z_iconst (y := (1 : Int32)) F dX10_stands_296 rfl ?_
  obtain ⟨hi297, h⟩ := zix_ex h
  refine z_iast F (zt_f tc_10_37 t0) dX10_stands_297 hi297 ?_
  obtain ⟨v_2, ev_2, h⟩ := zlet_ex h
  refine z_heap ev_2 ?_
  refine z_aload_n F dX10_stands_298 rfl 0 rfl ?_
  refine zg_10_37 F t0 wF_X10_91 dX10_stands_299 ?_
  refine z_aload_n F dX10_stands_302 rfl 0 rfl ?_
  refine zg_10_35 F t0 wF_X10_85 dX10_stands_303 ?_
  obtain ⟨v_3, hq306, h⟩ := zbindv_ex h
  refine z_callSv F [zr G (zrf x0 37), zr G (zrf x0 35)] [] (kX10_copies x.2.1 G (zrf x0 37) (zt_f tc_10_37 t0) (zrf x0 35) (zt_f tc_10_35 t0) v_2 v_3 hq306) mI_X10_copies wM_X10_237 ms_X10_copies dX10_stands_306 rfl ⟨Nat.le_of_ble_eq_true rfl, Nat.le_of_ble_eq_true rfl⟩ rfl (Nat.le_of_ble_eq_true rfl) ⟨Nat.zero_le _, Nat.zero_le _⟩ ?_
  refine z_aload_n F dX10_stands_309 rfl 0 rfl ?_
  refine z_iconst (y := (0 : Int32)) F dX10_stands_310 rfl ?_
  refine zp_10_26 F t0 wF_X10_241 dX10_stands_311 ?_
  obtain ⟨v_4, ev_4, h⟩ := zlet_ex h
  refine z_heap ev_4 ?_
  refine z_aload_n F dX10_stands_314 rfl 0 rfl ?_
  refine z_iconst (y := (0 : Int32)) F dX10_stands_315 rfl ?_
  refine zp_10_40 F t0 wF_X10_244 dX10_stands_316 ?_
  obtain ⟨v_5, ev_5, h⟩ := zlet_ex h
  refine z_heap ev_5 ?_
  refine z_aload_n F dX10_stands_319 rfl 0 rfl ?_
  refine z_iconst (y := (0 : Int32)) F dX10_stands_320 rfl ?_
  refine zp_10_42 F t0 wF_X10_247 dX10_stands_321 ?_
  obtain ⟨v_6, ev_6, h⟩ := zlet_ex h
  refine z_heap ev_6 ?_
  refine z_aload_n F dX10_stands_324 rfl 0 rfl ?_
  obtain ⟨v_7, hq325, h⟩ := zbindv_ex h
  refine z_callVv F [] [] (kX10_settles x.2.1 G x0 t0 v_6 v_7 hq325) mI_X10_settles (c := 10) rfl t0 wM_X10_250 mi_X10_settles sl_X10_settles dX10_stands_325 rfl ⟨Nat.le_of_ble_eq_true rfl, Nat.le_of_ble_eq_true rfl⟩ rfl (Nat.le_of_ble_eq_true rfl) ⟨Nat.zero_le _, Nat.zero_le _⟩ ?_
  cases h
  exact z_retv F hr hk dX10_stands_328

def fX10_stands_217  : Nat → Nat → Int32 → zV → Option zV
  | 0 => fun _ _ _ => none
  | n + 1 => fun x0 x1 v =>
    zix (3 : Int32) (zlen (zrf x0 12)) <|
    if (v (zrf x0 12) ((3 : Int32)).toNatClampNeg) ≤ x1 then
      fX10_stands_277  x0 v
    else
      zix x1 (zlen (zrf x0 18)) <|
      zix ((48 : Int32) + x1) (zlen (zrf x0 37)) <|
      zlet (zup v (zrf x0 37) ((48 : Int32) + x1).toNatClampNeg (v (zrf x0 18) (x1).toNatClampNeg)) fun v_1 =>
      zix x1 (zlen (zrf x0 18)) <|
      zix ((0 : Int32) + (v_1 (zrf x0 18) (x1).toNatClampNeg)) (zlen (zrf x0 37)) <|
      zlet (zup v_1 (zrf x0 37) ((0 : Int32) + (v_1 (zrf x0 18) (x1).toNatClampNeg)).toNatClampNeg (1 : Int32)) fun v_2 =>
      zix x1 (zlen (zrf x0 18)) <|
      zix ((32 : Int32) + (v_2 (zrf x0 18) (x1).toNatClampNeg)) (zlen (zrf x0 37)) <|
      zlet (zup v_2 (zrf x0 37) ((32 : Int32) + (v_2 (zrf x0 18) (x1).toNatClampNeg)).toNatClampNeg (0 : Int32)) fun v_3 =>
      (fX10_stands_217 n) x0 (x1 + (1 : Int32)) v_3
set_option maxRecDepth 4000 in
theorem jX10_stands_217 (x : zCx) (G : zG) (F : zF x G cX10_stands 2 RX10 3 122) (hr : x.2.2.2.2.2.2.2.2.1.sig.returnType = (Option.none : Option FieldType)) (hk : x.2.2.2.2.2.2.2.2.1.locks = false) (w : zV)  : ∀ (n : Nat) (x0 : Nat) (t0 : zty G x0 1 10) (x1 : Int32) (v : zV), fX10_stands_217 n x0 x1 v = some w → zJ x G 2 (zQ x G none w 0 0) 0 0 217 [(0, zr G x0), (1, .int x1)] [] v := by
  intro n
  induction n with
  | zero => intro x0 t0 x1 v h; exact absurd h (by intro q; cases q)
  | succ n ih =>
    intro x0 t0 x1 v h
    rw [fX10_stands_217] at h
    dsimp only at h
    refine z_iload_n F dX10_stands_217 rfl 1 rfl ?_
    refine z_aload_n F dX10_stands_218 rfl 0 rfl ?_
    refine zg_10_12 F t0 wF_X10_23 dX10_stands_219 ?_
    refine z_iconst (y := (3 : Int32)) F dX10_stands_222 rfl ?_
    obtain ⟨hi223, h⟩ := zix_ex h
    refine z_iald F (zt_f tc_10_12 t0) dX10_stands_223 hi223 ?_
    refine z_icmp_ge F 277 dX10_stands_224 rfl (fun hc => ?_) (fun hc => ?_)
    · replace h := zif_t hc h
      refine z_ls [(0, zr G x0)] [0] rfl ?_
      exact jX10_stands_277 x G F hr hk w   x0 t0 v h
    · replace h := zif_f hc h
      refine z_aload_n F dX10_stands_227 rfl 0 rfl ?_
      refine zg_10_37 F t0 wF_X10_91 dX10_stands_228 ?_
      refine z_bipush (y := (48 : Int32)) F dX10_stands_231 rfl ?_
      refine z_iload_n F dX10_stands_233 rfl 1 rfl ?_
      refine z_iadd F dX10_stands_234 ?_
      refine z_aload_n F dX10_stands_235 rfl 0 rfl ?_
      refine zg_10_18 F t0 wF_X10_41 dX10_stands_236 ?_
      refine z_iload_n F dX10_stands_239 rfl 1 rfl ?_
      obtain ⟨hi240, h⟩ := zix_ex h
      refine z_iald F (zt_f tc_10_18 t0) dX10_stands_240 hi240 ?_
      obtain ⟨hi241, h⟩ := zix_ex h
      refine z_iast F (zt_f tc_10_37 t0) dX10_stands_241 hi241 ?_
      obtain ⟨v_1, ev_1, h⟩ := zlet_ex h
      refine z_heap ev_1 ?_
      refine z_aload_n F dX10_stands_242 rfl 0 rfl ?_
      refine zg_10_37 F t0 wF_X10_91 dX10_stands_243 ?_
      refine z_iconst (y := (0 : Int32)) F dX10_stands_246 rfl ?_
      refine z_aload_n F dX10_stands_247 rfl 0 rfl ?_
      refine zg_10_18 F t0 wF_X10_41 dX10_stands_248 ?_
      refine z_iload_n F dX10_stands_251 rfl 1 rfl ?_
      obtain ⟨hi252, h⟩ := zix_ex h
      refine z_iald F (zt_f tc_10_18 t0) dX10_stands_252 hi252 ?_
      refine z_iadd F dX10_stands_253 ?_
      refine z_iconst (y := (1 : Int32)) F dX10_stands_254 rfl ?_
      obtain ⟨hi255, h⟩ := zix_ex h
      refine z_iast F (zt_f tc_10_37 t0) dX10_stands_255 hi255 ?_
      obtain ⟨v_2, ev_2, h⟩ := zlet_ex h
      refine z_heap ev_2 ?_
      refine z_aload_n F dX10_stands_256 rfl 0 rfl ?_
      refine zg_10_37 F t0 wF_X10_91 dX10_stands_257 ?_
      refine z_bipush (y := (32 : Int32)) F dX10_stands_260 rfl ?_
      refine z_aload_n F dX10_stands_262 rfl 0 rfl ?_
      refine zg_10_18 F t0 wF_X10_41 dX10_stands_263 ?_
      refine z_iload_n F dX10_stands_266 rfl 1 rfl ?_
      obtain ⟨hi267, h⟩ := zix_ex h
      refine z_iald F (zt_f tc_10_18 t0) dX10_stands_267 hi267 ?_
      refine z_iadd F dX10_stands_268 ?_
      refine z_iconst (y := (0 : Int32)) F dX10_stands_269 rfl ?_
      obtain ⟨hi270, h⟩ := zix_ex h
      refine z_iast F (zt_f tc_10_37 t0) dX10_stands_270 hi270 ?_
      obtain ⟨v_3, ev_3, h⟩ := zlet_ex h
      refine z_heap ev_3 ?_
      refine z_iinc F [(1, .int (x1 + (1 : Int32))), (0, zr G x0)] dX10_stands_271 1 rfl rfl (Nat.le_of_ble_eq_true rfl) rfl ?_
      refine z_goto F 217 dX10_stands_274 rfl ?_
      refine z_ls [(0, zr G x0), (1, .int (x1 + (1 : Int32)))] [1, 0] rfl ?_
      exact ih x0 t0 (x1 + (1 : Int32)) v_3 h

def fX10_stands_169  : Nat → Nat → Int32 → zV → Option zV
  | 0 => fun _ _ _ => none
  | n + 1 => fun x0 x1 v =>
    if (305 : Int32) ≤ x1 then
      fX10_stands_217  zFU x0 (0 : Int32) v
    else
      zbind (fX10_in x1 (32 : Int32) (47 : Int32) v) fun r_2 v_1 =>
      if r_2 = (0 : Int32) then
        if x1 < (104 : Int32) then
          zix x1 (zlen (zrf x0 37)) <|
          zlet (zup v_1 (zrf x0 37) (x1).toNatClampNeg (0 : Int32)) fun v_3 =>
          (fX10_stands_169 n) x0 (x1 + (1 : Int32)) v_3
        else
          zix x1 (zlen (zrf x0 37)) <|
          zlet (zup v_1 (zrf x0 37) (x1).toNatClampNeg (-2 : Int32)) fun v_4 =>
          (fX10_stands_169 n) x0 (x1 + (1 : Int32)) v_4
      else
        zix x1 (zlen (zrf x0 37)) <|
        zlet (zup v_1 (zrf x0 37) (x1).toNatClampNeg (-1 : Int32)) fun v_5 =>
        (fX10_stands_169 n) x0 (x1 + (1 : Int32)) v_5
set_option maxRecDepth 4000 in
theorem jX10_stands_169 (x : zCx) (G : zG) (F : zF x G cX10_stands 2 RX10 3 122) (hr : x.2.2.2.2.2.2.2.2.1.sig.returnType = (Option.none : Option FieldType)) (hk : x.2.2.2.2.2.2.2.2.1.locks = false) (w : zV)  : ∀ (n : Nat) (x0 : Nat) (t0 : zty G x0 1 10) (x1 : Int32) (v : zV), fX10_stands_169 n x0 x1 v = some w → zJ x G 2 (zQ x G none w 0 0) 0 0 169 [(0, zr G x0), (1, .int x1)] [] v := by
  intro n
  induction n with
  | zero => intro x0 t0 x1 v h; exact absurd h (by intro q; cases q)
  | succ n ih =>
    intro x0 t0 x1 v h
    rw [fX10_stands_169] at h
    dsimp only at h
    refine z_iload_n F dX10_stands_169 rfl 1 rfl ?_
    refine z_sipush (y := (305 : Int32)) F dX10_stands_170 rfl ?_
    refine z_icmp_ge F 215 dX10_stands_173 rfl (fun hc => ?_) (fun hc => ?_)
    · replace h := zif_t hc h
      refine z_iconst (y := (0 : Int32)) F dX10_stands_215 rfl ?_
      refine z_istore_n F [(1, .int (0 : Int32)), (0, zr G x0)] dX10_stands_216 rfl (Nat.le_of_ble_eq_true rfl) rfl ?_
      refine z_ls [(0, zr G x0), (1, .int (0 : Int32))] [1, 0] rfl ?_
      exact jX10_stands_217 x G F hr hk w   zFU x0 t0 (0 : Int32) v h
    · replace h := zif_f hc h
      refine z_aload_n F dX10_stands_176 rfl 0 rfl ?_
      refine zg_10_37 F t0 wF_X10_91 dX10_stands_177 ?_
      refine z_iload_n F dX10_stands_180 rfl 1 rfl ?_
      refine z_iload_n F dX10_stands_181 rfl 1 rfl ?_
      refine z_bipush (y := (32 : Int32)) F dX10_stands_182 rfl ?_
      refine z_bipush (y := (47 : Int32)) F dX10_stands_184 rfl ?_
      obtain ⟨r_2, v_1, hq186, h⟩ := zbind_ex h
      refine z_callSi F [.int x1, .int (32 : Int32), .int (47 : Int32)] [.int x1, zr G (zrf x0 37)] (kX10_in x.2.1 G x1 (32 : Int32) (47 : Int32) v r_2 v_1 hq186) mI_X10_in wM_X10_168 ms_X10_in dX10_stands_186 rfl ⟨Nat.le_of_ble_eq_true rfl, Nat.le_of_ble_eq_true rfl⟩ rfl (Nat.le_of_ble_eq_true rfl) ⟨Nat.zero_le _, Nat.zero_le _⟩ ?_
      refine z_if_eq F 196 dX10_stands_189 rfl (fun hc => ?_) (fun hc => ?_)
      · replace h := zif_t hc h
        refine z_iload_n F dX10_stands_196 rfl 1 rfl ?_
        refine z_bipush (y := (104 : Int32)) F dX10_stands_197 rfl ?_
        refine z_icmp_lt F 207 dX10_stands_199 rfl (fun hc => ?_) (fun hc => ?_)
        · replace h := zif_t hc h
          refine z_iconst (y := (0 : Int32)) F dX10_stands_207 rfl ?_
          obtain ⟨hi208, h⟩ := zix_ex h
          refine z_iast F (zt_f tc_10_37 t0) dX10_stands_208 hi208 ?_
          obtain ⟨v_3, ev_3, h⟩ := zlet_ex h
          refine z_heap ev_3 ?_
          refine z_iinc F [(1, .int (x1 + (1 : Int32))), (0, zr G x0)] dX10_stands_209 1 rfl rfl (Nat.le_of_ble_eq_true rfl) rfl ?_
          refine z_goto F 169 dX10_stands_212 rfl ?_
          refine z_ls [(0, zr G x0), (1, .int (x1 + (1 : Int32)))] [1, 0] rfl ?_
          exact ih x0 t0 (x1 + (1 : Int32)) v_3 h
        · replace h := zif_f hc h
          refine z_bipush (y := (-2 : Int32)) F dX10_stands_202 rfl ?_
          refine z_goto F 208 dX10_stands_204 rfl ?_
          obtain ⟨hi208, h⟩ := zix_ex h
          refine z_iast F (zt_f tc_10_37 t0) dX10_stands_208 hi208 ?_
          obtain ⟨v_4, ev_4, h⟩ := zlet_ex h
          refine z_heap ev_4 ?_
          refine z_iinc F [(1, .int (x1 + (1 : Int32))), (0, zr G x0)] dX10_stands_209 1 rfl rfl (Nat.le_of_ble_eq_true rfl) rfl ?_
          refine z_goto F 169 dX10_stands_212 rfl ?_
          refine z_ls [(0, zr G x0), (1, .int (x1 + (1 : Int32)))] [1, 0] rfl ?_
          exact ih x0 t0 (x1 + (1 : Int32)) v_4 h
      · replace h := zif_f hc h
        refine z_iconst (y := (-1 : Int32)) F dX10_stands_192 rfl ?_
        refine z_goto F 208 dX10_stands_193 rfl ?_
        obtain ⟨hi208, h⟩ := zix_ex h
        refine z_iast F (zt_f tc_10_37 t0) dX10_stands_208 hi208 ?_
        obtain ⟨v_5, ev_5, h⟩ := zlet_ex h
        refine z_heap ev_5 ?_
        refine z_iinc F [(1, .int (x1 + (1 : Int32))), (0, zr G x0)] dX10_stands_209 1 rfl rfl (Nat.le_of_ble_eq_true rfl) rfl ?_
        refine z_goto F 169 dX10_stands_212 rfl ?_
        refine z_ls [(0, zr G x0), (1, .int (x1 + (1 : Int32)))] [1, 0] rfl ?_
        exact ih x0 t0 (x1 + (1 : Int32)) v_5 h

def fX10_stands_116  (x0 : Nat) (v : zV) : Option zV :=
  zix (1 : Int32) (zlen (zrf x0 12)) <|
  zbindv (fX10_lays (zrf x0 19) (zrf x0 20) (v (zrf x0 12) ((1 : Int32)).toNatClampNeg) v) fun v_1 =>
  zix (4 : Int32) (zlen (zrf x0 12)) <|
  zbindv (fX10_lays (zrf x0 21) (zrf x0 22) (v_1 (zrf x0 12) ((4 : Int32)).toNatClampNeg) v_1) fun v_2 =>
  zix (5 : Int32) (zlen (zrf x0 12)) <|
  zbindv (fX10_lays (zrf x0 23) (zrf x0 24) (v_2 (zrf x0 12) ((5 : Int32)).toNatClampNeg) v_2) fun v_3 =>
  fX10_stands_169  zFU x0 (0 : Int32) v_3
set_option maxRecDepth 4000 in
theorem jX10_stands_116 (x : zCx) (G : zG) (F : zF x G cX10_stands 2 RX10 3 122) (hr : x.2.2.2.2.2.2.2.2.1.sig.returnType = (Option.none : Option FieldType)) (hk : x.2.2.2.2.2.2.2.2.1.locks = false) (w : zV)  : ∀ (x0 : Nat) (t0 : zty G x0 1 10) (v : zV), fX10_stands_116 x0 v = some w → zJ x G 2 (zQ x G none w 0 0) 0 0 116 [(0, zr G x0)] [] v := by
  intro x0 t0 v h
  unfold fX10_stands_116 at h
  refine z_aload_n F dX10_stands_116 rfl 0 rfl ?_
  refine zg_10_19 F t0 wF_X10_46 dX10_stands_117 ?_
  refine z_aload_n F dX10_stands_120 rfl 0 rfl ?_
  refine zg_10_20 F t0 wF_X10_49 dX10_stands_121 ?_
  refine z_aload_n F dX10_stands_124 rfl 0 rfl ?_
  refine zg_10_12 F t0 wF_X10_23 dX10_stands_125 ?_
  refine z_iconst (y := (1 : Int32)) F dX10_stands_128 rfl ?_
  obtain ⟨hi129, h⟩ := zix_ex h
  refine z_iald F (zt_f tc_10_12 t0) dX10_stands_129 hi129 ?_
  obtain ⟨v_1, hq130, h⟩ := zbindv_ex h
  refine z_callSv F [zr G (zrf x0 19), zr G (zrf x0 20), .int (v (zrf x0 12) ((1 : Int32)).toNatClampNeg)] [] (kX10_lays x.2.1 G (zrf x0 19) (zt_f tc_10_19 t0) (zrf x0 20) (zt_f tc_10_20 t0) (v (zrf x0 12) ((1 : Int32)).toNatClampNeg) v v_1 hq130) mI_X10_lays wM_X10_233 ms_X10_lays dX10_stands_130 rfl ⟨Nat.le_of_ble_eq_true rfl, Nat.le_of_ble_eq_true rfl⟩ rfl (Nat.le_of_ble_eq_true rfl) ⟨Nat.zero_le _, Nat.zero_le _⟩ ?_
  refine z_aload_n F dX10_stands_133 rfl 0 rfl ?_
  refine zg_10_21 F t0 wF_X10_52 dX10_stands_134 ?_
  refine z_aload_n F dX10_stands_137 rfl 0 rfl ?_
  refine zg_10_22 F t0 wF_X10_55 dX10_stands_138 ?_
  refine z_aload_n F dX10_stands_141 rfl 0 rfl ?_
  refine zg_10_12 F t0 wF_X10_23 dX10_stands_142 ?_
  refine z_iconst (y := (4 : Int32)) F dX10_stands_145 rfl ?_
  obtain ⟨hi146, h⟩ := zix_ex h
  refine z_iald F (zt_f tc_10_12 t0) dX10_stands_146 hi146 ?_
  obtain ⟨v_2, hq147, h⟩ := zbindv_ex h
  refine z_callSv F [zr G (zrf x0 21), zr G (zrf x0 22), .int (v_1 (zrf x0 12) ((4 : Int32)).toNatClampNeg)] [] (kX10_lays x.2.1 G (zrf x0 21) (zt_f tc_10_21 t0) (zrf x0 22) (zt_f tc_10_22 t0) (v_1 (zrf x0 12) ((4 : Int32)).toNatClampNeg) v_1 v_2 hq147) mI_X10_lays wM_X10_233 ms_X10_lays dX10_stands_147 rfl ⟨Nat.le_of_ble_eq_true rfl, Nat.le_of_ble_eq_true rfl⟩ rfl (Nat.le_of_ble_eq_true rfl) ⟨Nat.zero_le _, Nat.zero_le _⟩ ?_
  refine z_aload_n F dX10_stands_150 rfl 0 rfl ?_
  refine zg_10_23 F t0 wF_X10_58 dX10_stands_151 ?_
  refine z_aload_n F dX10_stands_154 rfl 0 rfl ?_
  refine zg_10_24 F t0 wF_X10_61 dX10_stands_155 ?_
  refine z_aload_n F dX10_stands_158 rfl 0 rfl ?_
  refine zg_10_12 F t0 wF_X10_23 dX10_stands_159 ?_
  refine z_iconst (y := (5 : Int32)) F dX10_stands_162 rfl ?_
  obtain ⟨hi163, h⟩ := zix_ex h
  refine z_iald F (zt_f tc_10_12 t0) dX10_stands_163 hi163 ?_
  obtain ⟨v_3, hq164, h⟩ := zbindv_ex h
  refine z_callSv F [zr G (zrf x0 23), zr G (zrf x0 24), .int (v_2 (zrf x0 12) ((5 : Int32)).toNatClampNeg)] [] (kX10_lays x.2.1 G (zrf x0 23) (zt_f tc_10_23 t0) (zrf x0 24) (zt_f tc_10_24 t0) (v_2 (zrf x0 12) ((5 : Int32)).toNatClampNeg) v_2 v_3 hq164) mI_X10_lays wM_X10_233 ms_X10_lays dX10_stands_164 rfl ⟨Nat.le_of_ble_eq_true rfl, Nat.le_of_ble_eq_true rfl⟩ rfl (Nat.le_of_ble_eq_true rfl) ⟨Nat.zero_le _, Nat.zero_le _⟩ ?_
  refine z_iconst (y := (0 : Int32)) F dX10_stands_167 rfl ?_
  refine z_istore_n F [(1, .int (0 : Int32)), (0, zr G x0)] dX10_stands_168 rfl (Nat.le_of_ble_eq_true rfl) rfl ?_
  refine z_ls [(0, zr G x0), (1, .int (0 : Int32))] [1, 0] rfl ?_
  exact jX10_stands_169 x G F hr hk w   zFU x0 t0 (0 : Int32) v_3 h

def fX10_stands_88  : Nat → Nat → Int32 → zV → Option zV
  | 0 => fun _ _ _ => none
  | n + 1 => fun x0 x1 v =>
    zix (3 : Int32) (zlen (zrf x0 12)) <|
    if (v (zrf x0 12) ((3 : Int32)).toNatClampNeg) ≤ x1 then
      fX10_stands_116  x0 v
    else
      zix x1 (zlen (zrf x0 17)) <|
      zix x1 (zlen (zrf x0 18)) <|
      zlet (zup v (zrf x0 18) (x1).toNatClampNeg (v (zrf x0 17) (x1).toNatClampNeg)) fun v_1 =>
      (fX10_stands_88 n) x0 (x1 + (1 : Int32)) v_1
set_option maxRecDepth 4000 in
theorem jX10_stands_88 (x : zCx) (G : zG) (F : zF x G cX10_stands 2 RX10 3 122) (hr : x.2.2.2.2.2.2.2.2.1.sig.returnType = (Option.none : Option FieldType)) (hk : x.2.2.2.2.2.2.2.2.1.locks = false) (w : zV)  : ∀ (n : Nat) (x0 : Nat) (t0 : zty G x0 1 10) (x1 : Int32) (v : zV), fX10_stands_88 n x0 x1 v = some w → zJ x G 2 (zQ x G none w 0 0) 0 0 88 [(0, zr G x0), (1, .int x1)] [] v := by
  intro n
  induction n with
  | zero => intro x0 t0 x1 v h; exact absurd h (by intro q; cases q)
  | succ n ih =>
    intro x0 t0 x1 v h
    rw [fX10_stands_88] at h
    dsimp only at h
    refine z_iload_n F dX10_stands_88 rfl 1 rfl ?_
    refine z_aload_n F dX10_stands_89 rfl 0 rfl ?_
    refine zg_10_12 F t0 wF_X10_23 dX10_stands_90 ?_
    refine z_iconst (y := (3 : Int32)) F dX10_stands_93 rfl ?_
    obtain ⟨hi94, h⟩ := zix_ex h
    refine z_iald F (zt_f tc_10_12 t0) dX10_stands_94 hi94 ?_
    refine z_icmp_ge F 116 dX10_stands_95 rfl (fun hc => ?_) (fun hc => ?_)
    · replace h := zif_t hc h
      refine z_ls [(0, zr G x0)] [0] rfl ?_
      exact jX10_stands_116 x G F hr hk w   x0 t0 v h
    · replace h := zif_f hc h
      refine z_aload_n F dX10_stands_98 rfl 0 rfl ?_
      refine zg_10_18 F t0 wF_X10_41 dX10_stands_99 ?_
      refine z_iload_n F dX10_stands_102 rfl 1 rfl ?_
      refine z_aload_n F dX10_stands_103 rfl 0 rfl ?_
      refine zg_10_17 F t0 wF_X10_38 dX10_stands_104 ?_
      refine z_iload_n F dX10_stands_107 rfl 1 rfl ?_
      obtain ⟨hi108, h⟩ := zix_ex h
      refine z_iald F (zt_f tc_10_17 t0) dX10_stands_108 hi108 ?_
      obtain ⟨hi109, h⟩ := zix_ex h
      refine z_iast F (zt_f tc_10_18 t0) dX10_stands_109 hi109 ?_
      obtain ⟨v_1, ev_1, h⟩ := zlet_ex h
      refine z_heap ev_1 ?_
      refine z_iinc F [(1, .int (x1 + (1 : Int32))), (0, zr G x0)] dX10_stands_110 1 rfl rfl (Nat.le_of_ble_eq_true rfl) rfl ?_
      refine z_goto F 88 dX10_stands_113 rfl ?_
      refine z_ls [(0, zr G x0), (1, .int (x1 + (1 : Int32)))] [1, 0] rfl ?_
      exact ih x0 t0 (x1 + (1 : Int32)) v_1 h

def fX10_stands_58  : Nat → Nat → Int32 → zV → Option zV
  | 0 => fun _ _ _ => none
  | n + 1 => fun x0 x1 v =>
    zix (1 : Int32) (zlen (zrf x0 12)) <|
    if (v (zrf x0 12) ((1 : Int32)).toNatClampNeg) ≤ x1 then
      fX10_stands_88  zFU x0 (0 : Int32) v
    else
      zix x1 (zlen (zrf x0 15)) <|
      zix x1 (zlen (zrf x0 16)) <|
      zlet (zup v (zrf x0 16) (x1).toNatClampNeg (v (zrf x0 15) (x1).toNatClampNeg)) fun v_1 =>
      (fX10_stands_58 n) x0 (x1 + (1 : Int32)) v_1
set_option maxRecDepth 4000 in
theorem jX10_stands_58 (x : zCx) (G : zG) (F : zF x G cX10_stands 2 RX10 3 122) (hr : x.2.2.2.2.2.2.2.2.1.sig.returnType = (Option.none : Option FieldType)) (hk : x.2.2.2.2.2.2.2.2.1.locks = false) (w : zV)  : ∀ (n : Nat) (x0 : Nat) (t0 : zty G x0 1 10) (x1 : Int32) (v : zV), fX10_stands_58 n x0 x1 v = some w → zJ x G 2 (zQ x G none w 0 0) 0 0 58 [(0, zr G x0), (1, .int x1)] [] v := by
  intro n
  induction n with
  | zero => intro x0 t0 x1 v h; exact absurd h (by intro q; cases q)
  | succ n ih =>
    intro x0 t0 x1 v h
    rw [fX10_stands_58] at h
    dsimp only at h
    refine z_iload_n F dX10_stands_58 rfl 1 rfl ?_
    refine z_aload_n F dX10_stands_59 rfl 0 rfl ?_
    refine zg_10_12 F t0 wF_X10_23 dX10_stands_60 ?_
    refine z_iconst (y := (1 : Int32)) F dX10_stands_63 rfl ?_
    obtain ⟨hi64, h⟩ := zix_ex h
    refine z_iald F (zt_f tc_10_12 t0) dX10_stands_64 hi64 ?_
    refine z_icmp_ge F 86 dX10_stands_65 rfl (fun hc => ?_) (fun hc => ?_)
    · replace h := zif_t hc h
      refine z_iconst (y := (0 : Int32)) F dX10_stands_86 rfl ?_
      refine z_istore_n F [(1, .int (0 : Int32)), (0, zr G x0)] dX10_stands_87 rfl (Nat.le_of_ble_eq_true rfl) rfl ?_
      refine z_ls [(0, zr G x0), (1, .int (0 : Int32))] [1, 0] rfl ?_
      exact jX10_stands_88 x G F hr hk w   zFU x0 t0 (0 : Int32) v h
    · replace h := zif_f hc h
      refine z_aload_n F dX10_stands_68 rfl 0 rfl ?_
      refine zg_10_16 F t0 wF_X10_35 dX10_stands_69 ?_
      refine z_iload_n F dX10_stands_72 rfl 1 rfl ?_
      refine z_aload_n F dX10_stands_73 rfl 0 rfl ?_
      refine zg_10_15 F t0 wF_X10_32 dX10_stands_74 ?_
      refine z_iload_n F dX10_stands_77 rfl 1 rfl ?_
      obtain ⟨hi78, h⟩ := zix_ex h
      refine z_iald F (zt_f tc_10_15 t0) dX10_stands_78 hi78 ?_
      obtain ⟨hi79, h⟩ := zix_ex h
      refine z_iast F (zt_f tc_10_16 t0) dX10_stands_79 hi79 ?_
      obtain ⟨v_1, ev_1, h⟩ := zlet_ex h
      refine z_heap ev_1 ?_
      refine z_iinc F [(1, .int (x1 + (1 : Int32))), (0, zr G x0)] dX10_stands_80 1 rfl rfl (Nat.le_of_ble_eq_true rfl) rfl ?_
      refine z_goto F 58 dX10_stands_83 rfl ?_
      refine z_ls [(0, zr G x0), (1, .int (x1 + (1 : Int32)))] [1, 0] rfl ?_
      exact ih x0 t0 (x1 + (1 : Int32)) v_1 h

def fX10_stands_28  : Nat → Nat → Int32 → zV → Option zV
  | 0 => fun _ _ _ => none
  | n + 1 => fun x0 x1 v =>
    zix (0 : Int32) (zlen (zrf x0 12)) <|
    if (v (zrf x0 12) ((0 : Int32)).toNatClampNeg) ≤ x1 then
      fX10_stands_58  zFU x0 (0 : Int32) v
    else
      zix x1 (zlen (zrf x0 13)) <|
      zix x1 (zlen (zrf x0 14)) <|
      zlet (zup v (zrf x0 14) (x1).toNatClampNeg (v (zrf x0 13) (x1).toNatClampNeg)) fun v_1 =>
      (fX10_stands_28 n) x0 (x1 + (1 : Int32)) v_1
set_option maxRecDepth 4000 in
theorem jX10_stands_28 (x : zCx) (G : zG) (F : zF x G cX10_stands 2 RX10 3 122) (hr : x.2.2.2.2.2.2.2.2.1.sig.returnType = (Option.none : Option FieldType)) (hk : x.2.2.2.2.2.2.2.2.1.locks = false) (w : zV)  : ∀ (n : Nat) (x0 : Nat) (t0 : zty G x0 1 10) (x1 : Int32) (v : zV), fX10_stands_28 n x0 x1 v = some w → zJ x G 2 (zQ x G none w 0 0) 0 0 28 [(0, zr G x0), (1, .int x1)] [] v := by
  intro n
  induction n with
  | zero => intro x0 t0 x1 v h; exact absurd h (by intro q; cases q)
  | succ n ih =>
    intro x0 t0 x1 v h
    rw [fX10_stands_28] at h
    dsimp only at h
    refine z_iload_n F dX10_stands_28 rfl 1 rfl ?_
    refine z_aload_n F dX10_stands_29 rfl 0 rfl ?_
    refine zg_10_12 F t0 wF_X10_23 dX10_stands_30 ?_
    refine z_iconst (y := (0 : Int32)) F dX10_stands_33 rfl ?_
    obtain ⟨hi34, h⟩ := zix_ex h
    refine z_iald F (zt_f tc_10_12 t0) dX10_stands_34 hi34 ?_
    refine z_icmp_ge F 56 dX10_stands_35 rfl (fun hc => ?_) (fun hc => ?_)
    · replace h := zif_t hc h
      refine z_iconst (y := (0 : Int32)) F dX10_stands_56 rfl ?_
      refine z_istore_n F [(1, .int (0 : Int32)), (0, zr G x0)] dX10_stands_57 rfl (Nat.le_of_ble_eq_true rfl) rfl ?_
      refine z_ls [(0, zr G x0), (1, .int (0 : Int32))] [1, 0] rfl ?_
      exact jX10_stands_58 x G F hr hk w   zFU x0 t0 (0 : Int32) v h
    · replace h := zif_f hc h
      refine z_aload_n F dX10_stands_38 rfl 0 rfl ?_
      refine zg_10_14 F t0 wF_X10_29 dX10_stands_39 ?_
      refine z_iload_n F dX10_stands_42 rfl 1 rfl ?_
      refine z_aload_n F dX10_stands_43 rfl 0 rfl ?_
      refine zg_10_13 F t0 wF_X10_26 dX10_stands_44 ?_
      refine z_iload_n F dX10_stands_47 rfl 1 rfl ?_
      obtain ⟨hi48, h⟩ := zix_ex h
      refine z_iald F (zt_f tc_10_13 t0) dX10_stands_48 hi48 ?_
      obtain ⟨hi49, h⟩ := zix_ex h
      refine z_iast F (zt_f tc_10_14 t0) dX10_stands_49 hi49 ?_
      obtain ⟨v_1, ev_1, h⟩ := zlet_ex h
      refine z_heap ev_1 ?_
      refine z_iinc F [(1, .int (x1 + (1 : Int32))), (0, zr G x0)] dX10_stands_50 1 rfl rfl (Nat.le_of_ble_eq_true rfl) rfl ?_
      refine z_goto F 28 dX10_stands_53 rfl ?_
      refine z_ls [(0, zr G x0), (1, .int (x1 + (1 : Int32)))] [1, 0] rfl ?_
      exact ih x0 t0 (x1 + (1 : Int32)) v_1 h

def fX10_stands_2  : Nat → Nat → Int32 → zV → Option zV
  | 0 => fun _ _ _ => none
  | n + 1 => fun x0 x1 v =>
    if (6 : Int32) ≤ x1 then
      fX10_stands_28  zFU x0 (0 : Int32) v
    else
      zix x1 (zlen (zrf x0 11)) <|
      zix x1 (zlen (zrf x0 12)) <|
      zlet (zup v (zrf x0 12) (x1).toNatClampNeg (v (zrf x0 11) (x1).toNatClampNeg)) fun v_1 =>
      (fX10_stands_2 n) x0 (x1 + (1 : Int32)) v_1
set_option maxRecDepth 4000 in
theorem jX10_stands_2 (x : zCx) (G : zG) (F : zF x G cX10_stands 2 RX10 3 122) (hr : x.2.2.2.2.2.2.2.2.1.sig.returnType = (Option.none : Option FieldType)) (hk : x.2.2.2.2.2.2.2.2.1.locks = false) (w : zV)  : ∀ (n : Nat) (x0 : Nat) (t0 : zty G x0 1 10) (x1 : Int32) (v : zV), fX10_stands_2 n x0 x1 v = some w → zJ x G 2 (zQ x G none w 0 0) 0 0 2 [(0, zr G x0), (1, .int x1)] [] v := by
  intro n
  induction n with
  | zero => intro x0 t0 x1 v h; exact absurd h (by intro q; cases q)
  | succ n ih =>
    intro x0 t0 x1 v h
    rw [fX10_stands_2] at h
    dsimp only at h
    refine z_iload_n F dX10_stands_2 rfl 1 rfl ?_
    refine z_bipush (y := (6 : Int32)) F dX10_stands_3 rfl ?_
    refine z_icmp_ge F 26 dX10_stands_5 rfl (fun hc => ?_) (fun hc => ?_)
    · replace h := zif_t hc h
      refine z_iconst (y := (0 : Int32)) F dX10_stands_26 rfl ?_
      refine z_istore_n F [(1, .int (0 : Int32)), (0, zr G x0)] dX10_stands_27 rfl (Nat.le_of_ble_eq_true rfl) rfl ?_
      refine z_ls [(0, zr G x0), (1, .int (0 : Int32))] [1, 0] rfl ?_
      exact jX10_stands_28 x G F hr hk w   zFU x0 t0 (0 : Int32) v h
    · replace h := zif_f hc h
      refine z_aload_n F dX10_stands_8 rfl 0 rfl ?_
      refine zg_10_12 F t0 wF_X10_23 dX10_stands_9 ?_
      refine z_iload_n F dX10_stands_12 rfl 1 rfl ?_
      refine z_aload_n F dX10_stands_13 rfl 0 rfl ?_
      refine zg_10_11 F t0 wF_X10_20 dX10_stands_14 ?_
      refine z_iload_n F dX10_stands_17 rfl 1 rfl ?_
      obtain ⟨hi18, h⟩ := zix_ex h
      refine z_iald F (zt_f tc_10_11 t0) dX10_stands_18 hi18 ?_
      obtain ⟨hi19, h⟩ := zix_ex h
      refine z_iast F (zt_f tc_10_12 t0) dX10_stands_19 hi19 ?_
      obtain ⟨v_1, ev_1, h⟩ := zlet_ex h
      refine z_heap ev_1 ?_
      refine z_iinc F [(1, .int (x1 + (1 : Int32))), (0, zr G x0)] dX10_stands_20 1 rfl rfl (Nat.le_of_ble_eq_true rfl) rfl ?_
      refine z_goto F 2 dX10_stands_23 rfl ?_
      refine z_ls [(0, zr G x0), (1, .int (x1 + (1 : Int32)))] [1, 0] rfl ?_
      exact ih x0 t0 (x1 + (1 : Int32)) v_1 h

def fX10_stands (x0 : Nat) (v : zV) : Option zV :=
  fX10_stands_2  zFU x0 (0 : Int32) v
set_option maxRecDepth 4000 in
theorem kX10_stands (l : Launch) (G : zG) (x0 : Nat) (t0 : zty G x0 1 10) (v : zV) (w : zV) (h : fX10_stands x0 v = some w) : zMet l yX10_stands cX10_stands 2 (Option.none : Option FieldType) 3 122 0 0 [zr G x0] G v none w := by
  refine zM_of (own := RX10) (by decide) rfl (Nat.le_of_ble_eq_true rfl) (fun x hl F hr hk hcs => ?_)
  subst hl
  refine z_ls [(0, zr G x0)] [0] rfl ?_
  unfold fX10_stands at h
  refine z_iconst (y := (0 : Int32)) F dX10_stands_0 rfl ?_
  refine z_istore_n F [(1, .int (0 : Int32)), (0, zr G x0)] dX10_stands_1 rfl (Nat.le_of_ble_eq_true rfl) rfl ?_
  refine z_ls [(0, zr G x0), (1, .int (0 : Int32))] [1, 0] rfl ?_
  exact jX10_stands_2 x G F hr hk w   zFU x0 t0 (0 : Int32) v h

theorem dX10_academy_0 : decode cX10_academy 0 = .ok (.aload_n 0, 1) := by decide +kernel
theorem dX10_academy_1 : decode cX10_academy 1 = .ok (.iconst 0, 1) := by decide +kernel
theorem dX10_academy_2 : decode cX10_academy 2 = .ok (.putfield 134, 3) := by decide +kernel
theorem dX10_academy_5 : decode cX10_academy 5 = .ok (.aload_n 0, 1) := by decide +kernel
theorem dX10_academy_6 : decode cX10_academy 6 = .ok (.iload_n 1, 1) := by decide +kernel
theorem dX10_academy_7 : decode cX10_academy 7 = .ok (.iconst 0, 1) := by decide +kernel
theorem dX10_academy_8 : decode cX10_academy 8 = .ok (.aload_n 0, 1) := by decide +kernel
theorem dX10_academy_9 : decode cX10_academy 9 = .ok (.getfield 137, 3) := by decide +kernel
theorem dX10_academy_12 : decode cX10_academy 12 = .ok (.invokestatic 168, 3) := by decide +kernel
theorem dX10_academy_15 : decode cX10_academy 15 = .ok (.ifCond .ne 7, 3) := by decide +kernel
theorem dX10_academy_18 : decode cX10_academy 18 = .ok (.iconst 1, 1) := by decide +kernel
theorem dX10_academy_19 : decode cX10_academy 19 = .ok (.goto 4, 3) := by decide +kernel
theorem dX10_academy_22 : decode cX10_academy 22 = .ok (.iconst 0, 1) := by decide +kernel
theorem dX10_academy_23 : decode cX10_academy 23 = .ok (.iconst 1, 1) := by decide +kernel
theorem dX10_academy_24 : decode cX10_academy 24 = .ok (.iconst 1, 1) := by decide +kernel
theorem dX10_academy_25 : decode cX10_academy 25 = .ok (.invokevirtual 220, 3) := by decide +kernel
theorem dX10_academy_28 : decode cX10_academy 28 = .ok (.ifCond .eq 5, 3) := by decide +kernel
theorem dX10_academy_31 : decode cX10_academy 31 = .ok (.iconst 0, 1) := by decide +kernel
theorem dX10_academy_32 : decode cX10_academy 32 = .ok (.ireturn, 1) := by decide +kernel
theorem dX10_academy_33 : decode cX10_academy 33 = .ok (.aload_n 0, 1) := by decide +kernel
theorem dX10_academy_34 : decode cX10_academy 34 = .ok (.iload_n 1, 1) := by decide +kernel
theorem dX10_academy_35 : decode cX10_academy 35 = .ok (.invokevirtual 224, 3) := by decide +kernel
theorem dX10_academy_38 : decode cX10_academy 38 = .ok (.aload_n 0, 1) := by decide +kernel
theorem dX10_academy_39 : decode cX10_academy 39 = .ok (.invokevirtual 124, 3) := by decide +kernel
theorem dX10_academy_42 : decode cX10_academy 42 = .ok (.aload_n 0, 1) := by decide +kernel
theorem dX10_academy_43 : decode cX10_academy 43 = .ok (.getfield 150, 3) := by decide +kernel
theorem dX10_academy_46 : decode cX10_academy 46 = .ok (.ifCond .ne 25, 3) := by decide +kernel
theorem dX10_academy_49 : decode cX10_academy 49 = .ok (.aload_n 0, 1) := by decide +kernel
theorem dX10_academy_50 : decode cX10_academy 50 = .ok (.getfield 143, 3) := by decide +kernel
theorem dX10_academy_53 : decode cX10_academy 53 = .ok (.aload_n 0, 1) := by decide +kernel
theorem dX10_academy_54 : decode cX10_academy 54 = .ok (.getfield 140, 3) := by decide +kernel
theorem dX10_academy_57 : decode cX10_academy 57 = .ok (.if_icmp .ge 14, 3) := by decide +kernel
theorem dX10_academy_60 : decode cX10_academy 60 = .ok (.aload_n 0, 1) := by decide +kernel
theorem dX10_academy_61 : decode cX10_academy 61 = .ok (.invokevirtual 227, 3) := by decide +kernel
theorem dX10_academy_64 : decode cX10_academy 64 = .ok (.aload_n 0, 1) := by decide +kernel
theorem dX10_academy_65 : decode cX10_academy 65 = .ok (.invokevirtual 156, 3) := by decide +kernel
theorem dX10_academy_68 : decode cX10_academy 68 = .ok (.goto (-26), 3) := by decide +kernel
theorem dX10_academy_71 : decode cX10_academy 71 = .ok (.aload_n 0, 1) := by decide +kernel
theorem dX10_academy_72 : decode cX10_academy 72 = .ok (.getfield 150, 3) := by decide +kernel
theorem dX10_academy_75 : decode cX10_academy 75 = .ok (.ifCond .eq 8, 3) := by decide +kernel
theorem dX10_academy_78 : decode cX10_academy 78 = .ok (.aload_n 0, 1) := by decide +kernel
theorem dX10_academy_79 : decode cX10_academy 79 = .ok (.invokevirtual 230, 3) := by decide +kernel
theorem dX10_academy_82 : decode cX10_academy 82 = .ok (.ireturn, 1) := by decide +kernel
theorem dX10_academy_83 : decode cX10_academy 83 = .ok (.aload_n 0, 1) := by decide +kernel
theorem dX10_academy_84 : decode cX10_academy 84 = .ok (.iconst (-1), 1) := by decide +kernel
theorem dX10_academy_85 : decode cX10_academy 85 = .ok (.putfield 9, 3) := by decide +kernel
theorem dX10_academy_88 : decode cX10_academy 88 = .ok (.aload_n 0, 1) := by decide +kernel
theorem dX10_academy_89 : decode cX10_academy 89 = .ok (.invokevirtual 127, 3) := by decide +kernel
theorem dX10_academy_92 : decode cX10_academy 92 = .ok (.aload_n 0, 1) := by decide +kernel
theorem dX10_academy_93 : decode cX10_academy 93 = .ok (.getfield 23, 3) := by decide +kernel
theorem dX10_academy_96 : decode cX10_academy 96 = .ok (.iconst 1, 1) := by decide +kernel
theorem dX10_academy_97 : decode cX10_academy 97 = .ok (.iaload, 1) := by decide +kernel
theorem dX10_academy_98 : decode cX10_academy 98 = .ok (.ireturn, 1) := by decide +kernel
def fX10_academy_71  (x0 : Nat) (v : zV) : Option (Int32 × zV) :=
  if (v x0 5) = (0 : Int32) then
    zlet (zup v x0 3 (-1 : Int32)) fun v_1 =>
    zbindv (fX10_stands x0 v_1) fun v_2 =>
    zix (1 : Int32) (zlen (zrf x0 12)) <|
    some (v_2 (zrf x0 12) ((1 : Int32)).toNatClampNeg, v_2)
  else
    zbind (fX10_ends x0 v) fun r_4 v_3 =>
    some (r_4, v_3)
set_option maxRecDepth 4000 in
theorem jX10_academy_71 (x : zCx) (G : zG) (F : zF x G cX10_academy 2 RX10 7 216) (hr : x.2.2.2.2.2.2.2.2.1.sig.returnType = (Option.some FieldType.int)) (hk : x.2.2.2.2.2.2.2.2.1.locks = false) (r : Int32) (w : zV)  : ∀ (x0 : Nat) (t0 : zty G x0 1 10) (v : zV), fX10_academy_71 x0 v = some (r, w) → zJ x G 2 (zQ x G (some (.int r)) w 0 0) 0 0 71 [(0, zr G x0)] [] v := by
  intro x0 t0 v h
  unfold fX10_academy_71 at h
  refine z_aload_n F dX10_academy_71 rfl 0 rfl ?_
  refine zg_10_5 F t0 wF_X10_150 dX10_academy_72 ?_
  refine z_if_eq F 83 dX10_academy_75 rfl (fun hc => ?_) (fun hc => ?_)
  · replace h := zif_t hc h
    refine z_aload_n F dX10_academy_83 rfl 0 rfl ?_
    refine z_iconst (y := (-1 : Int32)) F dX10_academy_84 rfl ?_
    refine zp_10_3 F t0 wF_X10_9 dX10_academy_85 ?_
    obtain ⟨v_1, ev_1, h⟩ := zlet_ex h
    refine z_heap ev_1 ?_
    refine z_aload_n F dX10_academy_88 rfl 0 rfl ?_
    obtain ⟨v_2, hq89, h⟩ := zbindv_ex h
    refine z_callVv F [] [] (kX10_stands x.2.1 G x0 t0 v_1 v_2 hq89) mI_X10_stands (c := 10) rfl t0 wM_X10_127 mi_X10_stands sl_X10_stands dX10_academy_89 rfl ⟨Nat.le_of_ble_eq_true rfl, Nat.le_of_ble_eq_true rfl⟩ rfl (Nat.le_of_ble_eq_true rfl) ⟨Nat.zero_le _, Nat.zero_le _⟩ ?_
    refine z_aload_n F dX10_academy_92 rfl 0 rfl ?_
    refine zg_10_12 F t0 wF_X10_23 dX10_academy_93 ?_
    refine z_iconst (y := (1 : Int32)) F dX10_academy_96 rfl ?_
    obtain ⟨hi97, h⟩ := zix_ex h
    refine z_iald F (zt_f tc_10_12 t0) dX10_academy_97 hi97 ?_
    cases h
    exact z_reti F hr hk dX10_academy_98
  · replace h := zif_f hc h
    refine z_aload_n F dX10_academy_78 rfl 0 rfl ?_
    obtain ⟨r_4, v_3, hq79, h⟩ := zbind_ex h
    refine z_callVi F [] [] (kX10_ends x.2.1 G x0 t0 v r_4 v_3 hq79) mI_X10_ends (c := 10) rfl t0 wM_X10_230 mi_X10_ends sl_X10_ends dX10_academy_79 rfl ⟨Nat.le_of_ble_eq_true rfl, Nat.le_of_ble_eq_true rfl⟩ rfl (Nat.le_of_ble_eq_true rfl) ⟨Nat.zero_le _, Nat.zero_le _⟩ ?_
    cases h
    exact z_reti F hr hk dX10_academy_82

def fX10_academy_42  : Nat → Nat → zV → Option (Int32 × zV)
  | 0 => fun _ _ => none
  | n + 1 => fun x0 v =>
    if (v x0 5) = (0 : Int32) then
      if (v x0 2) ≤ (v x0 4) then
        fX10_academy_71  x0 v
      else
        zbindv (fX10_clause x0 v) fun v_1 =>
        zbindv (fX10_blanks x0 v_1) fun v_2 =>
        (fX10_academy_42 n) x0 v_2
    else
      fX10_academy_71  x0 v
set_option maxRecDepth 4000 in
theorem jX10_academy_42 (x : zCx) (G : zG) (F : zF x G cX10_academy 2 RX10 7 216) (hr : x.2.2.2.2.2.2.2.2.1.sig.returnType = (Option.some FieldType.int)) (hk : x.2.2.2.2.2.2.2.2.1.locks = false) (r : Int32) (w : zV)  : ∀ (n : Nat) (x0 : Nat) (t0 : zty G x0 1 10) (v : zV), fX10_academy_42 n x0 v = some (r, w) → zJ x G 2 (zQ x G (some (.int r)) w 0 0) 0 0 42 [(0, zr G x0)] [] v := by
  intro n
  induction n with
  | zero => intro x0 t0 v h; exact absurd h (by intro q; cases q)
  | succ n ih =>
    intro x0 t0 v h
    rw [fX10_academy_42] at h
    dsimp only at h
    refine z_aload_n F dX10_academy_42 rfl 0 rfl ?_
    refine zg_10_5 F t0 wF_X10_150 dX10_academy_43 ?_
    refine z_if_ne F 71 dX10_academy_46 rfl (fun hc => ?_) (fun hc => ?_)
    · replace h := zif_f hc h
      refine z_ls [(0, zr G x0)] [0] rfl ?_
      exact jX10_academy_71 x G F hr hk r w   x0 t0 v h
    · replace h := zif_t hc h
      refine z_aload_n F dX10_academy_49 rfl 0 rfl ?_
      refine zg_10_4 F t0 wF_X10_143 dX10_academy_50 ?_
      refine z_aload_n F dX10_academy_53 rfl 0 rfl ?_
      refine zg_10_2 F t0 wF_X10_140 dX10_academy_54 ?_
      refine z_icmp_ge F 71 dX10_academy_57 rfl (fun hc => ?_) (fun hc => ?_)
      · replace h := zif_t hc h
        refine z_ls [(0, zr G x0)] [0] rfl ?_
        exact jX10_academy_71 x G F hr hk r w   x0 t0 v h
      · replace h := zif_f hc h
        refine z_aload_n F dX10_academy_60 rfl 0 rfl ?_
        obtain ⟨v_1, hq61, h⟩ := zbindv_ex h
        refine z_callVv F [] [] (kX10_clause x.2.1 G x0 t0 v v_1 hq61) mI_X10_clause (c := 10) rfl t0 wM_X10_227 mi_X10_clause sl_X10_clause dX10_academy_61 rfl ⟨Nat.le_of_ble_eq_true rfl, Nat.le_of_ble_eq_true rfl⟩ rfl (Nat.le_of_ble_eq_true rfl) ⟨Nat.zero_le _, Nat.zero_le _⟩ ?_
        refine z_aload_n F dX10_academy_64 rfl 0 rfl ?_
        obtain ⟨v_2, hq65, h⟩ := zbindv_ex h
        refine z_callVv F [] [] (kX10_blanks x.2.1 G x0 t0 v_1 v_2 hq65) mI_X10_blanks (c := 10) rfl t0 wM_X10_156 mi_X10_blanks sl_X10_blanks dX10_academy_65 rfl ⟨Nat.le_of_ble_eq_true rfl, Nat.le_of_ble_eq_true rfl⟩ rfl (Nat.le_of_ble_eq_true rfl) ⟨Nat.zero_le _, Nat.zero_le _⟩ ?_
        refine z_goto F 42 dX10_academy_68 rfl ?_
        refine z_ls [(0, zr G x0)] [0] rfl ?_
        exact ih x0 t0 v_2 h

def fX10_academy_23  (x0 : Nat) (x1 : Int32) (s0 : Nat) (s1 : Int32) (v : zV) : Option (Int32 × zV) :=
  zbind (fX10_bad s0 s1 (1 : Int32) (1 : Int32) v) fun r_2 v_1 =>
  if r_2 = (0 : Int32) then
    zbindv (fX10_starts x0 x1 v_1) fun v_3 =>
    zbindv (fX10_tellsNothing x0 v_3) fun v_4 =>
    fX10_academy_42  zFU x0 v_4
  else
    some ((0 : Int32), v_1)
set_option maxRecDepth 4000 in
theorem jX10_academy_23 (x : zCx) (G : zG) (F : zF x G cX10_academy 2 RX10 7 216) (hr : x.2.2.2.2.2.2.2.2.1.sig.returnType = (Option.some FieldType.int)) (hk : x.2.2.2.2.2.2.2.2.1.locks = false) (r : Int32) (w : zV)  : ∀ (x0 : Nat) (t0 : zty G x0 1 10) (x1 : Int32) (s0 : Nat) (ts0 : zty G s0 1 10) (s1 : Int32) (v : zV), fX10_academy_23 x0 x1 s0 s1 v = some (r, w) → zJ x G 2 (zQ x G (some (.int r)) w 0 0) 0 0 23 [(0, zr G x0), (1, .int x1)] [.int s1, zr G s0] v := by
  intro x0 t0 x1 s0 ts0 s1 v h
  unfold fX10_academy_23 at h
  refine z_iconst (y := (1 : Int32)) F dX10_academy_23 rfl ?_
  refine z_iconst (y := (1 : Int32)) F dX10_academy_24 rfl ?_
  obtain ⟨r_2, v_1, hq25, h⟩ := zbind_ex h
  refine z_callVi F [.int s1, .int (1 : Int32), .int (1 : Int32)] [] (kX10_bad x.2.1 G s0 ts0 s1 (1 : Int32) (1 : Int32) v r_2 v_1 hq25) mI_X10_bad (c := 10) rfl ts0 wM_X10_220 mi_X10_bad sl_X10_bad dX10_academy_25 rfl ⟨Nat.le_of_ble_eq_true rfl, Nat.le_of_ble_eq_true rfl⟩ rfl (Nat.le_of_ble_eq_true rfl) ⟨Nat.zero_le _, Nat.zero_le _⟩ ?_
  refine z_if_eq F 33 dX10_academy_28 rfl (fun hc => ?_) (fun hc => ?_)
  · replace h := zif_t hc h
    refine z_aload_n F dX10_academy_33 rfl 0 rfl ?_
    refine z_iload_n F dX10_academy_34 rfl 1 rfl ?_
    obtain ⟨v_3, hq35, h⟩ := zbindv_ex h
    refine z_callVv F [.int x1] [] (kX10_starts x.2.1 G x0 t0 x1 v_1 v_3 hq35) mI_X10_starts (c := 10) rfl t0 wM_X10_224 mi_X10_starts sl_X10_starts dX10_academy_35 rfl ⟨Nat.le_of_ble_eq_true rfl, Nat.le_of_ble_eq_true rfl⟩ rfl (Nat.le_of_ble_eq_true rfl) ⟨Nat.zero_le _, Nat.zero_le _⟩ ?_
    refine z_aload_n F dX10_academy_38 rfl 0 rfl ?_
    obtain ⟨v_4, hq39, h⟩ := zbindv_ex h
    refine z_callVv F [] [] (kX10_tellsNothing x.2.1 G x0 t0 v_3 v_4 hq39) mI_X10_tellsNothing (c := 10) rfl t0 wM_X10_124 mi_X10_tellsNothing sl_X10_tellsNothing dX10_academy_39 rfl ⟨Nat.le_of_ble_eq_true rfl, Nat.le_of_ble_eq_true rfl⟩ rfl (Nat.le_of_ble_eq_true rfl) ⟨Nat.zero_le _, Nat.zero_le _⟩ ?_
    refine z_ls [(0, zr G x0)] [0] rfl ?_
    exact jX10_academy_42 x G F hr hk r w   zFU x0 t0 v_4 h
  · replace h := zif_f hc h
    refine z_iconst (y := (0 : Int32)) F dX10_academy_31 rfl ?_
    cases h
    exact z_reti F hr hk dX10_academy_32

def fX10_academy (x0 : Nat) (x1 : Int32) (v : zV) : Option (Int32 × zV) :=
  zlet (zup v x0 0 (0 : Int32)) fun v_1 =>
  zbind (fX10_in x1 (0 : Int32) (v_1 x0 1) v_1) fun r_3 v_2 =>
  if r_3 = (0 : Int32) then
    fX10_academy_23  x0 x1 x0 (1 : Int32) v_2
  else
    fX10_academy_23  x0 x1 x0 (0 : Int32) v_2
set_option maxRecDepth 4000 in
theorem kX10_academy (l : Launch) (G : zG) (x0 : Nat) (t0 : zty G x0 1 10) (x1 : Int32) (v : zV) (r : Int32) (w : zV) (h : fX10_academy x0 x1 v = some (r, w)) : zMet l yX10_academy cX10_academy 2 (Option.some FieldType.int) 7 216 0 0 [zr G x0, .int x1] G v (some (.int r)) w := by
  refine zM_of (own := RX10) (by decide) rfl (Nat.le_of_ble_eq_true rfl) (fun x hl F hr hk hcs => ?_)
  subst hl
  refine z_ls [(0, zr G x0), (1, .int x1)] [0, 1] rfl ?_
  unfold fX10_academy at h
  refine z_aload_n F dX10_academy_0 rfl 0 rfl ?_
  refine z_iconst (y := (0 : Int32)) F dX10_academy_1 rfl ?_
  refine zp_10_0 F t0 wF_X10_134 dX10_academy_2 ?_
  obtain ⟨v_1, ev_1, h⟩ := zlet_ex h
  refine z_heap ev_1 ?_
  refine z_aload_n F dX10_academy_5 rfl 0 rfl ?_
  refine z_iload_n F dX10_academy_6 rfl 1 rfl ?_
  refine z_iconst (y := (0 : Int32)) F dX10_academy_7 rfl ?_
  refine z_aload_n F dX10_academy_8 rfl 0 rfl ?_
  refine zg_10_1 F t0 wF_X10_137 dX10_academy_9 ?_
  obtain ⟨r_3, v_2, hq12, h⟩ := zbind_ex h
  refine z_callSi F [.int x1, .int (0 : Int32), .int (v_1 x0 1)] [zr G x0] (kX10_in x.2.1 G x1 (0 : Int32) (v_1 x0 1) v_1 r_3 v_2 hq12) mI_X10_in wM_X10_168 ms_X10_in dX10_academy_12 rfl ⟨Nat.le_of_ble_eq_true rfl, Nat.le_of_ble_eq_true rfl⟩ rfl (Nat.le_of_ble_eq_true rfl) ⟨Nat.zero_le _, Nat.zero_le _⟩ ?_
  refine z_if_ne F 22 dX10_academy_15 rfl (fun hc => ?_) (fun hc => ?_)
  · replace h := zif_f hc h
    refine z_iconst (y := (0 : Int32)) F dX10_academy_22 rfl ?_
    refine z_ls [(0, zr G x0), (1, .int x1)] [0, 1] rfl ?_
    exact jX10_academy_23 x G F hr hk r w   x0 t0 x1 x0 t0 (0 : Int32) v_2 h
  · replace h := zif_t hc h
    refine z_iconst (y := (1 : Int32)) F dX10_academy_18 rfl ?_
    refine z_goto F 23 dX10_academy_19 rfl ?_
    refine z_ls [(0, zr G x0), (1, .int x1)] [0, 1] rfl ?_
    exact jX10_academy_23 x G F hr hk r w   x0 t0 x1 x0 t0 (1 : Int32) v_2 h

