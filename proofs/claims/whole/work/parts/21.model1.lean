theorem dX10_notes_0 : decode cX10_notes 0 = .ok (.aload_n 0, 1) := by decide +kernel
theorem dX10_notes_1 : decode cX10_notes 1 = .ok (.getfield 150, 3) := by decide +kernel
theorem dX10_notes_4 : decode cX10_notes 4 = .ok (.ifCond .eq 4, 3) := by decide +kernel
theorem dX10_notes_7 : decode cX10_notes 7 = .ok (.return_, 1) := by decide +kernel
theorem dX10_notes_8 : decode cX10_notes 8 = .ok (.aload_n 0, 1) := by decide +kernel
theorem dX10_notes_9 : decode cX10_notes 9 = .ok (.getfield 67, 3) := by decide +kernel
theorem dX10_notes_12 : decode cX10_notes 12 = .ok (.aload_n 0, 1) := by decide +kernel
theorem dX10_notes_13 : decode cX10_notes 13 = .ok (.getfield 256, 3) := by decide +kernel
theorem dX10_notes_16 : decode cX10_notes 16 = .ok (.aaload, 1) := by decide +kernel
theorem dX10_notes_17 : decode cX10_notes 17 = .ok (.iconst 0, 1) := by decide +kernel
theorem dX10_notes_18 : decode cX10_notes 18 = .ok (.iload_n 1, 1) := by decide +kernel
theorem dX10_notes_19 : decode cX10_notes 19 = .ok (.iastore, 1) := by decide +kernel
theorem dX10_notes_20 : decode cX10_notes 20 = .ok (.aload_n 0, 1) := by decide +kernel
theorem dX10_notes_21 : decode cX10_notes 21 = .ok (.getfield 67, 3) := by decide +kernel
theorem dX10_notes_24 : decode cX10_notes 24 = .ok (.aload_n 0, 1) := by decide +kernel
theorem dX10_notes_25 : decode cX10_notes 25 = .ok (.getfield 256, 3) := by decide +kernel
theorem dX10_notes_28 : decode cX10_notes 28 = .ok (.aaload, 1) := by decide +kernel
theorem dX10_notes_29 : decode cX10_notes 29 = .ok (.iconst 1, 1) := by decide +kernel
theorem dX10_notes_30 : decode cX10_notes 30 = .ok (.iload_n 2, 1) := by decide +kernel
theorem dX10_notes_31 : decode cX10_notes 31 = .ok (.iastore, 1) := by decide +kernel
theorem dX10_notes_32 : decode cX10_notes 32 = .ok (.aload_n 0, 1) := by decide +kernel
theorem dX10_notes_33 : decode cX10_notes 33 = .ok (.dup, 1) := by decide +kernel
theorem dX10_notes_34 : decode cX10_notes 34 = .ok (.getfield 256, 3) := by decide +kernel
theorem dX10_notes_37 : decode cX10_notes 37 = .ok (.iconst 1, 1) := by decide +kernel
theorem dX10_notes_38 : decode cX10_notes 38 = .ok (.iadd, 1) := by decide +kernel
theorem dX10_notes_39 : decode cX10_notes 39 = .ok (.putfield 256, 3) := by decide +kernel
theorem dX10_notes_42 : decode cX10_notes 42 = .ok (.return_, 1) := by decide +kernel
def fX10_notes (x0 : Nat) (x1 : Int32) (x2 : Int32) (v : zV) : Option zV :=
  if (v x0 5) = (0 : Int32) then
    zix (v x0 27) (zlen (zrf x0 29)) <|
    zix (0 : Int32) (zlen (zrf (zrf x0 29) (v x0 27).toNatClampNeg)) <|
    zlet (zup v (zrf (zrf x0 29) (v x0 27).toNatClampNeg) ((0 : Int32)).toNatClampNeg x1) fun v_1 =>
    zix (v_1 x0 27) (zlen (zrf x0 29)) <|
    zix (1 : Int32) (zlen (zrf (zrf x0 29) (v_1 x0 27).toNatClampNeg)) <|
    zlet (zup v_1 (zrf (zrf x0 29) (v_1 x0 27).toNatClampNeg) ((1 : Int32)).toNatClampNeg x2) fun v_2 =>
    zlet (zup v_2 x0 27 ((v_2 x0 27) + (1 : Int32))) fun v_3 =>
    some v_3
  else
    some v
set_option maxRecDepth 4000 in
theorem kX10_notes (l : Launch) (G : zG) (x0 : Nat) (t0 : zty G x0 1 10) (x1 : Int32) (x2 : Int32) (v : zV) (w : zV) (h : fX10_notes x0 x1 x2 v = some w) : zMet l yX10_notes cX10_notes 3 (Option.none : Option FieldType) 1 80 0 0 [zr G x0, .int x1, .int x2] G v none w := by
  refine zM_of (own := RX10) (by decide) rfl (Nat.le_of_ble_eq_true rfl) (fun x hl F hr hk hcs => ?_)
  subst hl
  refine z_ls [(0, zr G x0), (1, .int x1), (2, .int x2)] [0, 1, 2] rfl ?_
  unfold fX10_notes at h
  refine z_aload_n F dX10_notes_0 rfl 0 rfl ?_
  refine zg_10_5 F t0 wF_X10_150 dX10_notes_1 ?_
  refine z_if_eq F 8 dX10_notes_4 rfl (fun hc => ?_) (fun hc => ?_)
  · replace h := zif_t hc h
    refine z_aload_n F dX10_notes_8 rfl 0 rfl ?_
    refine zg_10_29 F t0 wF_X10_67 dX10_notes_9 ?_
    refine z_aload_n F dX10_notes_12 rfl 0 rfl ?_
    refine zg_10_27 F t0 wF_X10_256 dX10_notes_13 ?_
    obtain ⟨hi16, h⟩ := zix_ex h
    refine z_aald3 F (zt_f tc_10_29 t0) dX10_notes_16 hi16 ?_
    refine z_iconst (y := (0 : Int32)) F dX10_notes_17 rfl ?_
    refine z_iload_n F dX10_notes_18 rfl 1 rfl ?_
    obtain ⟨hi19, h⟩ := zix_ex h
    refine z_iast F (zt_a tcA_3 (zt_f tc_10_29 t0) (zin_lt hi16)) dX10_notes_19 hi19 ?_
    obtain ⟨v_1, ev_1, h⟩ := zlet_ex h
    refine z_heap ev_1 ?_
    refine z_aload_n F dX10_notes_20 rfl 0 rfl ?_
    refine zg_10_29 F t0 wF_X10_67 dX10_notes_21 ?_
    refine z_aload_n F dX10_notes_24 rfl 0 rfl ?_
    refine zg_10_27 F t0 wF_X10_256 dX10_notes_25 ?_
    obtain ⟨hi28, h⟩ := zix_ex h
    refine z_aald3 F (zt_f tc_10_29 t0) dX10_notes_28 hi28 ?_
    refine z_iconst (y := (1 : Int32)) F dX10_notes_29 rfl ?_
    refine z_iload_n F dX10_notes_30 rfl 2 rfl ?_
    obtain ⟨hi31, h⟩ := zix_ex h
    refine z_iast F (zt_a tcA_3 (zt_f tc_10_29 t0) (zin_lt hi28)) dX10_notes_31 hi31 ?_
    obtain ⟨v_2, ev_2, h⟩ := zlet_ex h
    refine z_heap ev_2 ?_
    refine z_aload_n F dX10_notes_32 rfl 0 rfl ?_
    refine z_dup F dX10_notes_33 rfl ?_
    refine zg_10_27 F t0 wF_X10_256 dX10_notes_34 ?_
    refine z_iconst (y := (1 : Int32)) F dX10_notes_37 rfl ?_
    refine z_iadd F dX10_notes_38 ?_
    refine zp_10_27 F t0 wF_X10_256 dX10_notes_39 ?_
    obtain ⟨v_3, ev_3, h⟩ := zlet_ex h
    refine z_heap ev_3 ?_
    cases h
    exact z_retv F hr hk dX10_notes_42
  · replace h := zif_f hc h
    cases h
    exact z_retv F hr hk dX10_notes_7

theorem dX10_opens_0 : decode cX10_opens 0 = .ok (.aload_n 0, 1) := by decide +kernel
theorem dX10_opens_1 : decode cX10_opens 1 = .ok (.getfield 150, 3) := by decide +kernel
theorem dX10_opens_4 : decode cX10_opens 4 = .ok (.ifCond .ne 24, 3) := by decide +kernel
theorem dX10_opens_7 : decode cX10_opens 7 = .ok (.aload_n 0, 1) := by decide +kernel
theorem dX10_opens_8 : decode cX10_opens 8 = .ok (.getfield 199, 3) := by decide +kernel
theorem dX10_opens_11 : decode cX10_opens 11 = .ok (.bipush 6, 2) := by decide +kernel
theorem dX10_opens_13 : decode cX10_opens 13 = .ok (.if_icmp .ne 15, 3) := by decide +kernel
theorem dX10_opens_16 : decode cX10_opens 16 = .ok (.aload_n 0, 1) := by decide +kernel
theorem dX10_opens_17 : decode cX10_opens 17 = .ok (.iconst 3, 1) := by decide +kernel
theorem dX10_opens_18 : decode cX10_opens 18 = .ok (.aload_n 0, 1) := by decide +kernel
theorem dX10_opens_19 : decode cX10_opens 19 = .ok (.getfield 143, 3) := by decide +kernel
theorem dX10_opens_22 : decode cX10_opens 22 = .ok (.invokevirtual 163, 3) := by decide +kernel
theorem dX10_opens_25 : decode cX10_opens 25 = .ok (.goto 20, 3) := by decide +kernel
theorem dX10_opens_28 : decode cX10_opens 28 = .ok (.aload_n 0, 1) := by decide +kernel
theorem dX10_opens_29 : decode cX10_opens 29 = .ok (.getfield 150, 3) := by decide +kernel
theorem dX10_opens_32 : decode cX10_opens 32 = .ok (.ifCond .ne 13, 3) := by decide +kernel
theorem dX10_opens_35 : decode cX10_opens 35 = .ok (.aload_n 0, 1) := by decide +kernel
theorem dX10_opens_36 : decode cX10_opens 36 = .ok (.dup, 1) := by decide +kernel
theorem dX10_opens_37 : decode cX10_opens 37 = .ok (.getfield 199, 3) := by decide +kernel
theorem dX10_opens_40 : decode cX10_opens 40 = .ok (.iconst 1, 1) := by decide +kernel
theorem dX10_opens_41 : decode cX10_opens 41 = .ok (.iadd, 1) := by decide +kernel
theorem dX10_opens_42 : decode cX10_opens 42 = .ok (.putfield 199, 3) := by decide +kernel
theorem dX10_opens_45 : decode cX10_opens 45 = .ok (.aload_n 0, 1) := by decide +kernel
theorem dX10_opens_46 : decode cX10_opens 46 = .ok (.getfield 150, 3) := by decide +kernel
theorem dX10_opens_49 : decode cX10_opens 49 = .ok (.ifCond .ne 7, 3) := by decide +kernel
theorem dX10_opens_52 : decode cX10_opens 52 = .ok (.iconst 1, 1) := by decide +kernel
theorem dX10_opens_53 : decode cX10_opens 53 = .ok (.goto 4, 3) := by decide +kernel
theorem dX10_opens_56 : decode cX10_opens 56 = .ok (.iconst 0, 1) := by decide +kernel
theorem dX10_opens_57 : decode cX10_opens 57 = .ok (.ireturn, 1) := by decide +kernel
def fX10_opens_28  (x0 : Nat) (v : zV) : Option (Int32 × zV) :=
  if (v x0 5) = (0 : Int32) then
    zlet (zup v x0 8 ((v x0 8) + (1 : Int32))) fun v_1 =>
    if (v_1 x0 5) = (0 : Int32) then
      some ((1 : Int32), v_1)
    else
      some ((0 : Int32), v_1)
  else
    if (v x0 5) = (0 : Int32) then
      some ((1 : Int32), v)
    else
      some ((0 : Int32), v)
set_option maxRecDepth 4000 in
theorem jX10_opens_28 (x : zCx) (G : zG) (F : zF x G cX10_opens 1 RX10 2 102) (hr : x.2.2.2.2.2.2.2.2.1.sig.returnType = (Option.some FieldType.boolean)) (hk : x.2.2.2.2.2.2.2.2.1.locks = false) (r : Int32) (w : zV)  : ∀ (x0 : Nat) (t0 : zty G x0 1 10) (v : zV), fX10_opens_28 x0 v = some (r, w) → zJ x G 1 (zQ x G (some (.int r)) w 0 0) 0 0 28 [(0, zr G x0)] [] v := by
  intro x0 t0 v h
  unfold fX10_opens_28 at h
  refine z_aload_n F dX10_opens_28 rfl 0 rfl ?_
  refine zg_10_5 F t0 wF_X10_150 dX10_opens_29 ?_
  refine z_if_ne F 45 dX10_opens_32 rfl (fun hc => ?_) (fun hc => ?_)
  · replace h := zif_f hc h
    refine z_aload_n F dX10_opens_45 rfl 0 rfl ?_
    refine zg_10_5 F t0 wF_X10_150 dX10_opens_46 ?_
    refine z_if_ne F 56 dX10_opens_49 rfl (fun hc => ?_) (fun hc => ?_)
    · replace h := zif_f hc h
      refine z_iconst (y := (0 : Int32)) F dX10_opens_56 rfl ?_
      cases h
      exact z_retz F hr hk rfl dX10_opens_57
    · replace h := zif_t hc h
      refine z_iconst (y := (1 : Int32)) F dX10_opens_52 rfl ?_
      refine z_goto F 57 dX10_opens_53 rfl ?_
      cases h
      exact z_retz F hr hk rfl dX10_opens_57
  · replace h := zif_t hc h
    refine z_aload_n F dX10_opens_35 rfl 0 rfl ?_
    refine z_dup F dX10_opens_36 rfl ?_
    refine zg_10_8 F t0 wF_X10_199 dX10_opens_37 ?_
    refine z_iconst (y := (1 : Int32)) F dX10_opens_40 rfl ?_
    refine z_iadd F dX10_opens_41 ?_
    refine zp_10_8 F t0 wF_X10_199 dX10_opens_42 ?_
    obtain ⟨v_1, ev_1, h⟩ := zlet_ex h
    refine z_heap ev_1 ?_
    refine z_aload_n F dX10_opens_45 rfl 0 rfl ?_
    refine zg_10_5 F t0 wF_X10_150 dX10_opens_46 ?_
    refine z_if_ne F 56 dX10_opens_49 rfl (fun hc => ?_) (fun hc => ?_)
    · replace h := zif_f hc h
      refine z_iconst (y := (0 : Int32)) F dX10_opens_56 rfl ?_
      cases h
      exact z_retz F hr hk rfl dX10_opens_57
    · replace h := zif_t hc h
      refine z_iconst (y := (1 : Int32)) F dX10_opens_52 rfl ?_
      refine z_goto F 57 dX10_opens_53 rfl ?_
      cases h
      exact z_retz F hr hk rfl dX10_opens_57

def fX10_opens (x0 : Nat) (v : zV) : Option (Int32 × zV) :=
  if (v x0 5) = (0 : Int32) then
    if (v x0 8) = (6 : Int32) then
      zbindv (fX10_wrong x0 (3 : Int32) (v x0 4) v) fun v_1 =>
      if (v_1 x0 5) = (0 : Int32) then
        some ((1 : Int32), v_1)
      else
        some ((0 : Int32), v_1)
    else
      fX10_opens_28  x0 v
  else
    fX10_opens_28  x0 v
set_option maxRecDepth 4000 in
theorem kX10_opens (l : Launch) (G : zG) (x0 : Nat) (t0 : zty G x0 1 10) (v : zV) (r : Int32) (w : zV) (h : fX10_opens x0 v = some (r, w)) : zMet l yX10_opens cX10_opens 1 (Option.some FieldType.boolean) 2 102 0 0 [zr G x0] G v (some (.int r)) w := by
  refine zM_of (own := RX10) (by decide) rfl (Nat.le_of_ble_eq_true rfl) (fun x hl F hr hk hcs => ?_)
  subst hl
  refine z_ls [(0, zr G x0)] [0] rfl ?_
  unfold fX10_opens at h
  refine z_aload_n F dX10_opens_0 rfl 0 rfl ?_
  refine zg_10_5 F t0 wF_X10_150 dX10_opens_1 ?_
  refine z_if_ne F 28 dX10_opens_4 rfl (fun hc => ?_) (fun hc => ?_)
  · replace h := zif_f hc h
    refine z_ls [(0, zr G x0)] [0] rfl ?_
    exact jX10_opens_28 x G F hr hk r w   x0 t0 v h
  · replace h := zif_t hc h
    refine z_aload_n F dX10_opens_7 rfl 0 rfl ?_
    refine zg_10_8 F t0 wF_X10_199 dX10_opens_8 ?_
    refine z_bipush (y := (6 : Int32)) F dX10_opens_11 rfl ?_
    refine z_icmp_ne F 28 dX10_opens_13 rfl (fun hc => ?_) (fun hc => ?_)
    · replace h := zif_f hc h
      refine z_ls [(0, zr G x0)] [0] rfl ?_
      exact jX10_opens_28 x G F hr hk r w   x0 t0 v h
    · replace h := zif_t hc h
      refine z_aload_n F dX10_opens_16 rfl 0 rfl ?_
      refine z_iconst (y := (3 : Int32)) F dX10_opens_17 rfl ?_
      refine z_aload_n F dX10_opens_18 rfl 0 rfl ?_
      refine zg_10_4 F t0 wF_X10_143 dX10_opens_19 ?_
      obtain ⟨v_1, hq22, h⟩ := zbindv_ex h
      refine z_callVv F [.int (3 : Int32), .int (v x0 4)] [] (kX10_wrong x.2.1 G x0 t0 (3 : Int32) (v x0 4) v v_1 hq22) mI_X10_wrong (c := 10) rfl t0 wM_X10_163 mi_X10_wrong sl_X10_wrong dX10_opens_22 rfl ⟨Nat.le_of_ble_eq_true rfl, Nat.le_of_ble_eq_true rfl⟩ rfl (Nat.le_of_ble_eq_true rfl) ⟨Nat.zero_le _, Nat.zero_le _⟩ ?_
      refine z_goto F 45 dX10_opens_25 rfl ?_
      refine z_aload_n F dX10_opens_45 rfl 0 rfl ?_
      refine zg_10_5 F t0 wF_X10_150 dX10_opens_46 ?_
      refine z_if_ne F 56 dX10_opens_49 rfl (fun hc => ?_) (fun hc => ?_)
      · replace h := zif_f hc h
        refine z_iconst (y := (0 : Int32)) F dX10_opens_56 rfl ?_
        cases h
        exact z_retz F hr hk rfl dX10_opens_57
      · replace h := zif_t hc h
        refine z_iconst (y := (1 : Int32)) F dX10_opens_52 rfl ?_
        refine z_goto F 57 dX10_opens_53 rfl ?_
        cases h
        exact z_retz F hr hk rfl dX10_opens_57

theorem dX10_knownHere_0 : decode cX10_knownHere 0 = .ok (.aload_n 0, 1) := by decide +kernel
theorem dX10_knownHere_1 : decode cX10_knownHere 1 = .ok (.iconst 4, 1) := by decide +kernel
theorem dX10_knownHere_2 : decode cX10_knownHere 2 = .ok (.bipush 9, 2) := by decide +kernel
theorem dX10_knownHere_4 : decode cX10_knownHere 4 = .ok (.bipush 6, 2) := by decide +kernel
theorem dX10_knownHere_6 : decode cX10_knownHere 6 = .ok (.bipush 6, 2) := by decide +kernel
theorem dX10_knownHere_8 : decode cX10_knownHere 8 = .ok (.iconst 5, 1) := by decide +kernel
theorem dX10_knownHere_9 : decode cX10_knownHere 9 = .ok (.bipush 18, 2) := by decide +kernel
theorem dX10_knownHere_11 : decode cX10_knownHere 11 = .ok (.bipush 19, 2) := by decide +kernel
theorem dX10_knownHere_13 : decode cX10_knownHere 13 = .ok (.iconst 0, 1) := by decide +kernel
theorem dX10_knownHere_14 : decode cX10_knownHere 14 = .ok (.invokevirtual 271, 3) := by decide +kernel
theorem dX10_knownHere_17 : decode cX10_knownHere 17 = .ok (.ifCond .eq 5, 3) := by decide +kernel
theorem dX10_knownHere_20 : decode cX10_knownHere 20 = .ok (.iconst 0, 1) := by decide +kernel
theorem dX10_knownHere_21 : decode cX10_knownHere 21 = .ok (.ireturn, 1) := by decide +kernel
theorem dX10_knownHere_22 : decode cX10_knownHere 22 = .ok (.aload_n 0, 1) := by decide +kernel
theorem dX10_knownHere_23 : decode cX10_knownHere 23 = .ok (.iconst 1, 1) := by decide +kernel
theorem dX10_knownHere_24 : decode cX10_knownHere 24 = .ok (.bipush 7, 2) := by decide +kernel
theorem dX10_knownHere_26 : decode cX10_knownHere 26 = .ok (.bipush 18, 2) := by decide +kernel
theorem dX10_knownHere_28 : decode cX10_knownHere 28 = .ok (.iconst 5, 1) := by decide +kernel
theorem dX10_knownHere_29 : decode cX10_knownHere 29 = .ok (.iconst 5, 1) := by decide +kernel
theorem dX10_knownHere_30 : decode cX10_knownHere 30 = .ok (.bipush 19, 2) := by decide +kernel
theorem dX10_knownHere_32 : decode cX10_knownHere 32 = .ok (.iconst 0, 1) := by decide +kernel
theorem dX10_knownHere_33 : decode cX10_knownHere 33 = .ok (.iconst 0, 1) := by decide +kernel
theorem dX10_knownHere_34 : decode cX10_knownHere 34 = .ok (.invokevirtual 271, 3) := by decide +kernel
theorem dX10_knownHere_37 : decode cX10_knownHere 37 = .ok (.ifCond .eq 5, 3) := by decide +kernel
theorem dX10_knownHere_40 : decode cX10_knownHere 40 = .ok (.iconst 1, 1) := by decide +kernel
theorem dX10_knownHere_41 : decode cX10_knownHere 41 = .ok (.ireturn, 1) := by decide +kernel
theorem dX10_knownHere_42 : decode cX10_knownHere 42 = .ok (.aload_n 0, 1) := by decide +kernel
theorem dX10_knownHere_43 : decode cX10_knownHere 43 = .ok (.bipush 23, 2) := by decide +kernel
theorem dX10_knownHere_45 : decode cX10_knownHere 45 = .ok (.iconst 1, 1) := by decide +kernel
theorem dX10_knownHere_46 : decode cX10_knownHere 46 = .ok (.bipush 9, 2) := by decide +kernel
theorem dX10_knownHere_48 : decode cX10_knownHere 48 = .ok (.bipush 20, 2) := by decide +kernel
theorem dX10_knownHere_50 : decode cX10_knownHere 50 = .ok (.bipush 19, 2) := by decide +kernel
theorem dX10_knownHere_52 : decode cX10_knownHere 52 = .ok (.iconst 0, 1) := by decide +kernel
theorem dX10_knownHere_53 : decode cX10_knownHere 53 = .ok (.iconst 0, 1) := by decide +kernel
theorem dX10_knownHere_54 : decode cX10_knownHere 54 = .ok (.iconst 0, 1) := by decide +kernel
theorem dX10_knownHere_55 : decode cX10_knownHere 55 = .ok (.invokevirtual 271, 3) := by decide +kernel
theorem dX10_knownHere_58 : decode cX10_knownHere 58 = .ok (.ifCond .eq 5, 3) := by decide +kernel
theorem dX10_knownHere_61 : decode cX10_knownHere 61 = .ok (.iconst 2, 1) := by decide +kernel
theorem dX10_knownHere_62 : decode cX10_knownHere 62 = .ok (.ireturn, 1) := by decide +kernel
theorem dX10_knownHere_63 : decode cX10_knownHere 63 = .ok (.aload_n 0, 1) := by decide +kernel
theorem dX10_knownHere_64 : decode cX10_knownHere 64 = .ok (.iconst 1, 1) := by decide +kernel
theorem dX10_knownHere_65 : decode cX10_knownHere 65 = .ok (.bipush 7, 2) := by decide +kernel
theorem dX10_knownHere_67 : decode cX10_knownHere 67 = .ok (.iconst 5, 1) := by decide +kernel
theorem dX10_knownHere_68 : decode cX10_knownHere 68 = .ok (.iconst 0, 1) := by decide +kernel
theorem dX10_knownHere_69 : decode cX10_knownHere 69 = .ok (.iconst 0, 1) := by decide +kernel
theorem dX10_knownHere_70 : decode cX10_knownHere 70 = .ok (.iconst 0, 1) := by decide +kernel
theorem dX10_knownHere_71 : decode cX10_knownHere 71 = .ok (.iconst 0, 1) := by decide +kernel
theorem dX10_knownHere_72 : decode cX10_knownHere 72 = .ok (.iconst 0, 1) := by decide +kernel
theorem dX10_knownHere_73 : decode cX10_knownHere 73 = .ok (.invokevirtual 271, 3) := by decide +kernel
theorem dX10_knownHere_76 : decode cX10_knownHere 76 = .ok (.ifCond .eq 5, 3) := by decide +kernel
theorem dX10_knownHere_79 : decode cX10_knownHere 79 = .ok (.iconst 3, 1) := by decide +kernel
theorem dX10_knownHere_80 : decode cX10_knownHere 80 = .ok (.ireturn, 1) := by decide +kernel
theorem dX10_knownHere_81 : decode cX10_knownHere 81 = .ok (.aload_n 0, 1) := by decide +kernel
theorem dX10_knownHere_82 : decode cX10_knownHere 82 = .ok (.bipush 14, 2) := by decide +kernel
theorem dX10_knownHere_84 : decode cX10_knownHere 84 = .ok (.bipush 21, 2) := by decide +kernel
theorem dX10_knownHere_86 : decode cX10_knownHere 86 = .ok (.bipush 13, 2) := by decide +kernel
theorem dX10_knownHere_88 : decode cX10_knownHere 88 = .ok (.iconst 2, 1) := by decide +kernel
theorem dX10_knownHere_89 : decode cX10_knownHere 89 = .ok (.iconst 5, 1) := by decide +kernel
theorem dX10_knownHere_90 : decode cX10_knownHere 90 = .ok (.bipush 18, 2) := by decide +kernel
theorem dX10_knownHere_92 : decode cX10_knownHere 92 = .ok (.iconst 0, 1) := by decide +kernel
theorem dX10_knownHere_93 : decode cX10_knownHere 93 = .ok (.iconst 0, 1) := by decide +kernel
theorem dX10_knownHere_94 : decode cX10_knownHere 94 = .ok (.invokevirtual 271, 3) := by decide +kernel
theorem dX10_knownHere_97 : decode cX10_knownHere 97 = .ok (.ifCond .eq 5, 3) := by decide +kernel
theorem dX10_knownHere_100 : decode cX10_knownHere 100 = .ok (.iconst 4, 1) := by decide +kernel
theorem dX10_knownHere_101 : decode cX10_knownHere 101 = .ok (.ireturn, 1) := by decide +kernel
theorem dX10_knownHere_102 : decode cX10_knownHere 102 = .ok (.aload_n 0, 1) := by decide +kernel
theorem dX10_knownHere_103 : decode cX10_knownHere 103 = .ok (.bipush 25, 2) := by decide +kernel
theorem dX10_knownHere_105 : decode cX10_knownHere 105 = .ok (.iconst 5, 1) := by decide +kernel
theorem dX10_knownHere_106 : decode cX10_knownHere 106 = .ok (.iconst 1, 1) := by decide +kernel
theorem dX10_knownHere_107 : decode cX10_knownHere 107 = .ok (.bipush 18, 2) := by decide +kernel
theorem dX10_knownHere_109 : decode cX10_knownHere 109 = .ok (.iconst 0, 1) := by decide +kernel
theorem dX10_knownHere_110 : decode cX10_knownHere 110 = .ok (.iconst 0, 1) := by decide +kernel
theorem dX10_knownHere_111 : decode cX10_knownHere 111 = .ok (.iconst 0, 1) := by decide +kernel
theorem dX10_knownHere_112 : decode cX10_knownHere 112 = .ok (.iconst 0, 1) := by decide +kernel
theorem dX10_knownHere_113 : decode cX10_knownHere 113 = .ok (.invokevirtual 271, 3) := by decide +kernel
theorem dX10_knownHere_116 : decode cX10_knownHere 116 = .ok (.ifCond .eq 5, 3) := by decide +kernel
theorem dX10_knownHere_119 : decode cX10_knownHere 119 = .ok (.iconst 5, 1) := by decide +kernel
theorem dX10_knownHere_120 : decode cX10_knownHere 120 = .ok (.ireturn, 1) := by decide +kernel
theorem dX10_knownHere_121 : decode cX10_knownHere 121 = .ok (.aload_n 0, 1) := by decide +kernel
theorem dX10_knownHere_122 : decode cX10_knownHere 122 = .ok (.bipush 19, 2) := by decide +kernel
theorem dX10_knownHere_124 : decode cX10_knownHere 124 = .ok (.iconst 1, 1) := by decide +kernel
theorem dX10_knownHere_125 : decode cX10_knownHere 125 = .ok (.bipush 20, 2) := by decide +kernel
theorem dX10_knownHere_127 : decode cX10_knownHere 127 = .ok (.iconst 0, 1) := by decide +kernel
theorem dX10_knownHere_128 : decode cX10_knownHere 128 = .ok (.iconst 0, 1) := by decide +kernel
theorem dX10_knownHere_129 : decode cX10_knownHere 129 = .ok (.iconst 0, 1) := by decide +kernel
theorem dX10_knownHere_130 : decode cX10_knownHere 130 = .ok (.iconst 0, 1) := by decide +kernel
theorem dX10_knownHere_131 : decode cX10_knownHere 131 = .ok (.iconst 0, 1) := by decide +kernel
theorem dX10_knownHere_132 : decode cX10_knownHere 132 = .ok (.invokevirtual 271, 3) := by decide +kernel
theorem dX10_knownHere_135 : decode cX10_knownHere 135 = .ok (.ifCond .eq 8, 3) := by decide +kernel
theorem dX10_knownHere_138 : decode cX10_knownHere 138 = .ok (.bipush 6, 2) := by decide +kernel
theorem dX10_knownHere_140 : decode cX10_knownHere 140 = .ok (.goto 4, 3) := by decide +kernel
theorem dX10_knownHere_143 : decode cX10_knownHere 143 = .ok (.iconst (-1), 1) := by decide +kernel
theorem dX10_knownHere_144 : decode cX10_knownHere 144 = .ok (.ireturn, 1) := by decide +kernel
def fX10_knownHere (x0 : Nat) (v : zV) : Option (Int32 × zV) :=
  zbind (fX10_takes x0 (4 : Int32) (9 : Int32) (6 : Int32) (6 : Int32) (5 : Int32) (18 : Int32) (19 : Int32) (0 : Int32) v) fun r_2 v_1 =>
  if r_2 = (0 : Int32) then
    zbind (fX10_takes x0 (1 : Int32) (7 : Int32) (18 : Int32) (5 : Int32) (5 : Int32) (19 : Int32) (0 : Int32) (0 : Int32) v_1) fun r_4 v_3 =>
    if r_4 = (0 : Int32) then
      zbind (fX10_takes x0 (23 : Int32) (1 : Int32) (9 : Int32) (20 : Int32) (19 : Int32) (0 : Int32) (0 : Int32) (0 : Int32) v_3) fun r_6 v_5 =>
      if r_6 = (0 : Int32) then
        zbind (fX10_takes x0 (1 : Int32) (7 : Int32) (5 : Int32) (0 : Int32) (0 : Int32) (0 : Int32) (0 : Int32) (0 : Int32) v_5) fun r_8 v_7 =>
        if r_8 = (0 : Int32) then
          zbind (fX10_takes x0 (14 : Int32) (21 : Int32) (13 : Int32) (2 : Int32) (5 : Int32) (18 : Int32) (0 : Int32) (0 : Int32) v_7) fun r_10 v_9 =>
          if r_10 = (0 : Int32) then
            zbind (fX10_takes x0 (25 : Int32) (5 : Int32) (1 : Int32) (18 : Int32) (0 : Int32) (0 : Int32) (0 : Int32) (0 : Int32) v_9) fun r_12 v_11 =>
            if r_12 = (0 : Int32) then
              zbind (fX10_takes x0 (19 : Int32) (1 : Int32) (20 : Int32) (0 : Int32) (0 : Int32) (0 : Int32) (0 : Int32) (0 : Int32) v_11) fun r_14 v_13 =>
              if r_14 = (0 : Int32) then
                some ((-1 : Int32), v_13)
              else
                some ((6 : Int32), v_13)
            else
              some ((5 : Int32), v_11)
          else
            some ((4 : Int32), v_9)
        else
          some ((3 : Int32), v_7)
      else
        some ((2 : Int32), v_5)
    else
      some ((1 : Int32), v_3)
  else
    some ((0 : Int32), v_1)
set_option maxRecDepth 4000 in
theorem kX10_knownHere (l : Launch) (G : zG) (x0 : Nat) (t0 : zty G x0 1 10) (v : zV) (r : Int32) (w : zV) (h : fX10_knownHere x0 v = some (r, w)) : zMet l yX10_knownHere cX10_knownHere 1 (Option.some FieldType.int) 6 201 0 0 [zr G x0] G v (some (.int r)) w := by
  refine zM_of (own := RX10) (by decide) rfl (Nat.le_of_ble_eq_true rfl) (fun x hl F hr hk hcs => ?_)
  subst hl
  refine z_ls [(0, zr G x0)] [0] rfl ?_
  unfold fX10_knownHere at h
  refine z_aload_n F dX10_knownHere_0 rfl 0 rfl ?_
  refine z_iconst (y := (4 : Int32)) F dX10_knownHere_1 rfl ?_
  refine z_bipush (y := (9 : Int32)) F dX10_knownHere_2 rfl ?_
  refine z_bipush (y := (6 : Int32)) F dX10_knownHere_4 rfl ?_
  refine z_bipush (y := (6 : Int32)) F dX10_knownHere_6 rfl ?_
  refine z_iconst (y := (5 : Int32)) F dX10_knownHere_8 rfl ?_
  refine z_bipush (y := (18 : Int32)) F dX10_knownHere_9 rfl ?_
  refine z_bipush (y := (19 : Int32)) F dX10_knownHere_11 rfl ?_
  refine z_iconst (y := (0 : Int32)) F dX10_knownHere_13 rfl ?_
  obtain ⟨r_2, v_1, hq14, h⟩ := zbind_ex h
  refine z_callVi F [.int (4 : Int32), .int (9 : Int32), .int (6 : Int32), .int (6 : Int32), .int (5 : Int32), .int (18 : Int32), .int (19 : Int32), .int (0 : Int32)] [] (kX10_takes x.2.1 G x0 t0 (4 : Int32) (9 : Int32) (6 : Int32) (6 : Int32) (5 : Int32) (18 : Int32) (19 : Int32) (0 : Int32) v r_2 v_1 hq14) mI_X10_takes (c := 10) rfl t0 wM_X10_271 mi_X10_takes sl_X10_takes dX10_knownHere_14 rfl ⟨Nat.le_of_ble_eq_true rfl, Nat.le_of_ble_eq_true rfl⟩ rfl (Nat.le_of_ble_eq_true rfl) ⟨Nat.zero_le _, Nat.zero_le _⟩ ?_
  refine z_if_eq F 22 dX10_knownHere_17 rfl (fun hc => ?_) (fun hc => ?_)
  · replace h := zif_t hc h
    refine z_aload_n F dX10_knownHere_22 rfl 0 rfl ?_
    refine z_iconst (y := (1 : Int32)) F dX10_knownHere_23 rfl ?_
    refine z_bipush (y := (7 : Int32)) F dX10_knownHere_24 rfl ?_
    refine z_bipush (y := (18 : Int32)) F dX10_knownHere_26 rfl ?_
    refine z_iconst (y := (5 : Int32)) F dX10_knownHere_28 rfl ?_
    refine z_iconst (y := (5 : Int32)) F dX10_knownHere_29 rfl ?_
    refine z_bipush (y := (19 : Int32)) F dX10_knownHere_30 rfl ?_
    refine z_iconst (y := (0 : Int32)) F dX10_knownHere_32 rfl ?_
    refine z_iconst (y := (0 : Int32)) F dX10_knownHere_33 rfl ?_
    obtain ⟨r_4, v_3, hq34, h⟩ := zbind_ex h
    refine z_callVi F [.int (1 : Int32), .int (7 : Int32), .int (18 : Int32), .int (5 : Int32), .int (5 : Int32), .int (19 : Int32), .int (0 : Int32), .int (0 : Int32)] [] (kX10_takes x.2.1 G x0 t0 (1 : Int32) (7 : Int32) (18 : Int32) (5 : Int32) (5 : Int32) (19 : Int32) (0 : Int32) (0 : Int32) v_1 r_4 v_3 hq34) mI_X10_takes (c := 10) rfl t0 wM_X10_271 mi_X10_takes sl_X10_takes dX10_knownHere_34 rfl ⟨Nat.le_of_ble_eq_true rfl, Nat.le_of_ble_eq_true rfl⟩ rfl (Nat.le_of_ble_eq_true rfl) ⟨Nat.zero_le _, Nat.zero_le _⟩ ?_
    refine z_if_eq F 42 dX10_knownHere_37 rfl (fun hc => ?_) (fun hc => ?_)
    · replace h := zif_t hc h
      refine z_aload_n F dX10_knownHere_42 rfl 0 rfl ?_
      refine z_bipush (y := (23 : Int32)) F dX10_knownHere_43 rfl ?_
      refine z_iconst (y := (1 : Int32)) F dX10_knownHere_45 rfl ?_
      refine z_bipush (y := (9 : Int32)) F dX10_knownHere_46 rfl ?_
      refine z_bipush (y := (20 : Int32)) F dX10_knownHere_48 rfl ?_
      refine z_bipush (y := (19 : Int32)) F dX10_knownHere_50 rfl ?_
      refine z_iconst (y := (0 : Int32)) F dX10_knownHere_52 rfl ?_
      refine z_iconst (y := (0 : Int32)) F dX10_knownHere_53 rfl ?_
      refine z_iconst (y := (0 : Int32)) F dX10_knownHere_54 rfl ?_
      obtain ⟨r_6, v_5, hq55, h⟩ := zbind_ex h
      refine z_callVi F [.int (23 : Int32), .int (1 : Int32), .int (9 : Int32), .int (20 : Int32), .int (19 : Int32), .int (0 : Int32), .int (0 : Int32), .int (0 : Int32)] [] (kX10_takes x.2.1 G x0 t0 (23 : Int32) (1 : Int32) (9 : Int32) (20 : Int32) (19 : Int32) (0 : Int32) (0 : Int32) (0 : Int32) v_3 r_6 v_5 hq55) mI_X10_takes (c := 10) rfl t0 wM_X10_271 mi_X10_takes sl_X10_takes dX10_knownHere_55 rfl ⟨Nat.le_of_ble_eq_true rfl, Nat.le_of_ble_eq_true rfl⟩ rfl (Nat.le_of_ble_eq_true rfl) ⟨Nat.zero_le _, Nat.zero_le _⟩ ?_
      refine z_if_eq F 63 dX10_knownHere_58 rfl (fun hc => ?_) (fun hc => ?_)
      · replace h := zif_t hc h
        refine z_aload_n F dX10_knownHere_63 rfl 0 rfl ?_
        refine z_iconst (y := (1 : Int32)) F dX10_knownHere_64 rfl ?_
        refine z_bipush (y := (7 : Int32)) F dX10_knownHere_65 rfl ?_
        refine z_iconst (y := (5 : Int32)) F dX10_knownHere_67 rfl ?_
        refine z_iconst (y := (0 : Int32)) F dX10_knownHere_68 rfl ?_
        refine z_iconst (y := (0 : Int32)) F dX10_knownHere_69 rfl ?_
        refine z_iconst (y := (0 : Int32)) F dX10_knownHere_70 rfl ?_
        refine z_iconst (y := (0 : Int32)) F dX10_knownHere_71 rfl ?_
        refine z_iconst (y := (0 : Int32)) F dX10_knownHere_72 rfl ?_
        obtain ⟨r_8, v_7, hq73, h⟩ := zbind_ex h
        refine z_callVi F [.int (1 : Int32), .int (7 : Int32), .int (5 : Int32), .int (0 : Int32), .int (0 : Int32), .int (0 : Int32), .int (0 : Int32), .int (0 : Int32)] [] (kX10_takes x.2.1 G x0 t0 (1 : Int32) (7 : Int32) (5 : Int32) (0 : Int32) (0 : Int32) (0 : Int32) (0 : Int32) (0 : Int32) v_5 r_8 v_7 hq73) mI_X10_takes (c := 10) rfl t0 wM_X10_271 mi_X10_takes sl_X10_takes dX10_knownHere_73 rfl ⟨Nat.le_of_ble_eq_true rfl, Nat.le_of_ble_eq_true rfl⟩ rfl (Nat.le_of_ble_eq_true rfl) ⟨Nat.zero_le _, Nat.zero_le _⟩ ?_
        refine z_if_eq F 81 dX10_knownHere_76 rfl (fun hc => ?_) (fun hc => ?_)
        · replace h := zif_t hc h
          refine z_aload_n F dX10_knownHere_81 rfl 0 rfl ?_
          refine z_bipush (y := (14 : Int32)) F dX10_knownHere_82 rfl ?_
          refine z_bipush (y := (21 : Int32)) F dX10_knownHere_84 rfl ?_
          refine z_bipush (y := (13 : Int32)) F dX10_knownHere_86 rfl ?_
          refine z_iconst (y := (2 : Int32)) F dX10_knownHere_88 rfl ?_
          refine z_iconst (y := (5 : Int32)) F dX10_knownHere_89 rfl ?_
          refine z_bipush (y := (18 : Int32)) F dX10_knownHere_90 rfl ?_
          refine z_iconst (y := (0 : Int32)) F dX10_knownHere_92 rfl ?_
          refine z_iconst (y := (0 : Int32)) F dX10_knownHere_93 rfl ?_
          obtain ⟨r_10, v_9, hq94, h⟩ := zbind_ex h
          refine z_callVi F [.int (14 : Int32), .int (21 : Int32), .int (13 : Int32), .int (2 : Int32), .int (5 : Int32), .int (18 : Int32), .int (0 : Int32), .int (0 : Int32)] [] (kX10_takes x.2.1 G x0 t0 (14 : Int32) (21 : Int32) (13 : Int32) (2 : Int32) (5 : Int32) (18 : Int32) (0 : Int32) (0 : Int32) v_7 r_10 v_9 hq94) mI_X10_takes (c := 10) rfl t0 wM_X10_271 mi_X10_takes sl_X10_takes dX10_knownHere_94 rfl ⟨Nat.le_of_ble_eq_true rfl, Nat.le_of_ble_eq_true rfl⟩ rfl (Nat.le_of_ble_eq_true rfl) ⟨Nat.zero_le _, Nat.zero_le _⟩ ?_
          refine z_if_eq F 102 dX10_knownHere_97 rfl (fun hc => ?_) (fun hc => ?_)
          · replace h := zif_t hc h
            refine z_aload_n F dX10_knownHere_102 rfl 0 rfl ?_
            refine z_bipush (y := (25 : Int32)) F dX10_knownHere_103 rfl ?_
            refine z_iconst (y := (5 : Int32)) F dX10_knownHere_105 rfl ?_
            refine z_iconst (y := (1 : Int32)) F dX10_knownHere_106 rfl ?_
            refine z_bipush (y := (18 : Int32)) F dX10_knownHere_107 rfl ?_
            refine z_iconst (y := (0 : Int32)) F dX10_knownHere_109 rfl ?_
            refine z_iconst (y := (0 : Int32)) F dX10_knownHere_110 rfl ?_
            refine z_iconst (y := (0 : Int32)) F dX10_knownHere_111 rfl ?_
            refine z_iconst (y := (0 : Int32)) F dX10_knownHere_112 rfl ?_
            obtain ⟨r_12, v_11, hq113, h⟩ := zbind_ex h
            refine z_callVi F [.int (25 : Int32), .int (5 : Int32), .int (1 : Int32), .int (18 : Int32), .int (0 : Int32), .int (0 : Int32), .int (0 : Int32), .int (0 : Int32)] [] (kX10_takes x.2.1 G x0 t0 (25 : Int32) (5 : Int32) (1 : Int32) (18 : Int32) (0 : Int32) (0 : Int32) (0 : Int32) (0 : Int32) v_9 r_12 v_11 hq113) mI_X10_takes (c := 10) rfl t0 wM_X10_271 mi_X10_takes sl_X10_takes dX10_knownHere_113 rfl ⟨Nat.le_of_ble_eq_true rfl, Nat.le_of_ble_eq_true rfl⟩ rfl (Nat.le_of_ble_eq_true rfl) ⟨Nat.zero_le _, Nat.zero_le _⟩ ?_
            refine z_if_eq F 121 dX10_knownHere_116 rfl (fun hc => ?_) (fun hc => ?_)
            · replace h := zif_t hc h
              refine z_aload_n F dX10_knownHere_121 rfl 0 rfl ?_
              refine z_bipush (y := (19 : Int32)) F dX10_knownHere_122 rfl ?_
              refine z_iconst (y := (1 : Int32)) F dX10_knownHere_124 rfl ?_
              refine z_bipush (y := (20 : Int32)) F dX10_knownHere_125 rfl ?_
              refine z_iconst (y := (0 : Int32)) F dX10_knownHere_127 rfl ?_
              refine z_iconst (y := (0 : Int32)) F dX10_knownHere_128 rfl ?_
              refine z_iconst (y := (0 : Int32)) F dX10_knownHere_129 rfl ?_
              refine z_iconst (y := (0 : Int32)) F dX10_knownHere_130 rfl ?_
              refine z_iconst (y := (0 : Int32)) F dX10_knownHere_131 rfl ?_
              obtain ⟨r_14, v_13, hq132, h⟩ := zbind_ex h
              refine z_callVi F [.int (19 : Int32), .int (1 : Int32), .int (20 : Int32), .int (0 : Int32), .int (0 : Int32), .int (0 : Int32), .int (0 : Int32), .int (0 : Int32)] [] (kX10_takes x.2.1 G x0 t0 (19 : Int32) (1 : Int32) (20 : Int32) (0 : Int32) (0 : Int32) (0 : Int32) (0 : Int32) (0 : Int32) v_11 r_14 v_13 hq132) mI_X10_takes (c := 10) rfl t0 wM_X10_271 mi_X10_takes sl_X10_takes dX10_knownHere_132 rfl ⟨Nat.le_of_ble_eq_true rfl, Nat.le_of_ble_eq_true rfl⟩ rfl (Nat.le_of_ble_eq_true rfl) ⟨Nat.zero_le _, Nat.zero_le _⟩ ?_
              refine z_if_eq F 143 dX10_knownHere_135 rfl (fun hc => ?_) (fun hc => ?_)
              · replace h := zif_t hc h
                refine z_iconst (y := (-1 : Int32)) F dX10_knownHere_143 rfl ?_
                cases h
                exact z_reti F hr hk dX10_knownHere_144
              · replace h := zif_f hc h
                refine z_bipush (y := (6 : Int32)) F dX10_knownHere_138 rfl ?_
                refine z_goto F 144 dX10_knownHere_140 rfl ?_
                cases h
                exact z_reti F hr hk dX10_knownHere_144
            · replace h := zif_f hc h
              refine z_iconst (y := (5 : Int32)) F dX10_knownHere_119 rfl ?_
              cases h
              exact z_reti F hr hk dX10_knownHere_120
          · replace h := zif_f hc h
            refine z_iconst (y := (4 : Int32)) F dX10_knownHere_100 rfl ?_
            cases h
            exact z_reti F hr hk dX10_knownHere_101
        · replace h := zif_f hc h
          refine z_iconst (y := (3 : Int32)) F dX10_knownHere_79 rfl ?_
          cases h
          exact z_reti F hr hk dX10_knownHere_80
      · replace h := zif_f hc h
        refine z_iconst (y := (2 : Int32)) F dX10_knownHere_61 rfl ?_
        cases h
        exact z_reti F hr hk dX10_knownHere_62
    · replace h := zif_f hc h
      refine z_iconst (y := (1 : Int32)) F dX10_knownHere_40 rfl ?_
      cases h
      exact z_reti F hr hk dX10_knownHere_41
  · replace h := zif_f hc h
    refine z_iconst (y := (0 : Int32)) F dX10_knownHere_20 rfl ?_
    cases h
    exact z_reti F hr hk dX10_knownHere_21

theorem dX10_one_0 : decode cX10_one 0 = .ok (.aload_n 0, 1) := by decide +kernel
theorem dX10_one_1 : decode cX10_one 1 = .ok (.getfield 150, 3) := by decide +kernel
theorem dX10_one_4 : decode cX10_one 4 = .ok (.ifCond .eq 4, 3) := by decide +kernel
theorem dX10_one_7 : decode cX10_one 7 = .ok (.return_, 1) := by decide +kernel
theorem dX10_one_8 : decode cX10_one 8 = .ok (.aload_n 0, 1) := by decide +kernel
theorem dX10_one_9 : decode cX10_one 9 = .ok (.invokevirtual 156, 3) := by decide +kernel
theorem dX10_one_12 : decode cX10_one 12 = .ok (.aload_n 0, 1) := by decide +kernel
theorem dX10_one_13 : decode cX10_one 13 = .ok (.bipush 12, 2) := by decide +kernel
theorem dX10_one_15 : decode cX10_one 15 = .ok (.iconst 5, 1) := by decide +kernel
theorem dX10_one_16 : decode cX10_one 16 = .ok (.iconst 1, 1) := by decide +kernel
theorem dX10_one_17 : decode cX10_one 17 = .ok (.bipush 19, 2) := by decide +kernel
theorem dX10_one_19 : decode cX10_one 19 = .ok (.bipush 20, 2) := by decide +kernel
theorem dX10_one_21 : decode cX10_one 21 = .ok (.iconst 0, 1) := by decide +kernel
theorem dX10_one_22 : decode cX10_one 22 = .ok (.iconst 0, 1) := by decide +kernel
theorem dX10_one_23 : decode cX10_one 23 = .ok (.iconst 0, 1) := by decide +kernel
theorem dX10_one_24 : decode cX10_one 24 = .ok (.invokevirtual 189, 3) := by decide +kernel
theorem dX10_one_27 : decode cX10_one 27 = .ok (.ifCond .eq 8, 3) := by decide +kernel
theorem dX10_one_30 : decode cX10_one 30 = .ok (.bipush 6, 2) := by decide +kernel
theorem dX10_one_32 : decode cX10_one 32 = .ok (.goto 28, 3) := by decide +kernel
theorem dX10_one_35 : decode cX10_one 35 = .ok (.aload_n 0, 1) := by decide +kernel
theorem dX10_one_36 : decode cX10_one 36 = .ok (.bipush 13, 2) := by decide +kernel
theorem dX10_one_38 : decode cX10_one 38 = .ok (.bipush 15, 2) := by decide +kernel
theorem dX10_one_40 : decode cX10_one 40 = .ok (.bipush 19, 2) := by decide +kernel
theorem dX10_one_42 : decode cX10_one 42 = .ok (.bipush 20, 2) := by decide +kernel
theorem dX10_one_44 : decode cX10_one 44 = .ok (.iconst 0, 1) := by decide +kernel
theorem dX10_one_45 : decode cX10_one 45 = .ok (.iconst 0, 1) := by decide +kernel
theorem dX10_one_46 : decode cX10_one 46 = .ok (.iconst 0, 1) := by decide +kernel
theorem dX10_one_47 : decode cX10_one 47 = .ok (.iconst 0, 1) := by decide +kernel
theorem dX10_one_48 : decode cX10_one 48 = .ok (.invokevirtual 189, 3) := by decide +kernel
theorem dX10_one_51 : decode cX10_one 51 = .ok (.ifCond .eq 8, 3) := by decide +kernel
theorem dX10_one_54 : decode cX10_one 54 = .ok (.bipush 7, 2) := by decide +kernel
theorem dX10_one_56 : decode cX10_one 56 = .ok (.goto 4, 3) := by decide +kernel
theorem dX10_one_59 : decode cX10_one 59 = .ok (.iconst (-1), 1) := by decide +kernel
theorem dX10_one_60 : decode cX10_one 60 = .ok (.istore_n 1, 1) := by decide +kernel
theorem dX10_one_61 : decode cX10_one 61 = .ok (.iload_n 1, 1) := by decide +kernel
theorem dX10_one_62 : decode cX10_one 62 = .ok (.iconst (-1), 1) := by decide +kernel
theorem dX10_one_63 : decode cX10_one 63 = .ok (.if_icmp .eq 58, 3) := by decide +kernel
theorem dX10_one_66 : decode cX10_one 66 = .ok (.aload_n 0, 1) := by decide +kernel
theorem dX10_one_67 : decode cX10_one 67 = .ok (.invokevirtual 274, 3) := by decide +kernel
theorem dX10_one_70 : decode cX10_one 70 = .ok (.ifCond .ne 4, 3) := by decide +kernel
theorem dX10_one_73 : decode cX10_one 73 = .ok (.return_, 1) := by decide +kernel
theorem dX10_one_74 : decode cX10_one 74 = .ok (.aload_n 0, 1) := by decide +kernel
theorem dX10_one_75 : decode cX10_one 75 = .ok (.invokevirtual 193, 3) := by decide +kernel
theorem dX10_one_78 : decode cX10_one 78 = .ok (.aload_n 0, 1) := by decide +kernel
theorem dX10_one_79 : decode cX10_one 79 = .ok (.bipush 91, 2) := by decide +kernel
theorem dX10_one_81 : decode cX10_one 81 = .ok (.invokevirtual 216, 3) := by decide +kernel
theorem dX10_one_84 : decode cX10_one 84 = .ok (.aload_n 0, 1) := by decide +kernel
theorem dX10_one_85 : decode cX10_one 85 = .ok (.invokevirtual 278, 3) := by decide +kernel
theorem dX10_one_88 : decode cX10_one 88 = .ok (.aload_n 0, 1) := by decide +kernel
theorem dX10_one_89 : decode cX10_one 89 = .ok (.bipush 44, 2) := by decide +kernel
theorem dX10_one_91 : decode cX10_one 91 = .ok (.invokevirtual 216, 3) := by decide +kernel
theorem dX10_one_94 : decode cX10_one 94 = .ok (.aload_n 0, 1) := by decide +kernel
theorem dX10_one_95 : decode cX10_one 95 = .ok (.invokevirtual 278, 3) := by decide +kernel
theorem dX10_one_98 : decode cX10_one 98 = .ok (.aload_n 0, 1) := by decide +kernel
theorem dX10_one_99 : decode cX10_one 99 = .ok (.bipush 93, 2) := by decide +kernel
theorem dX10_one_101 : decode cX10_one 101 = .ok (.invokevirtual 216, 3) := by decide +kernel
theorem dX10_one_104 : decode cX10_one 104 = .ok (.aload_n 0, 1) := by decide +kernel
theorem dX10_one_105 : decode cX10_one 105 = .ok (.iload_n 1, 1) := by decide +kernel
theorem dX10_one_106 : decode cX10_one 106 = .ok (.iconst 0, 1) := by decide +kernel
theorem dX10_one_107 : decode cX10_one 107 = .ok (.invokevirtual 265, 3) := by decide +kernel
theorem dX10_one_110 : decode cX10_one 110 = .ok (.aload_n 0, 1) := by decide +kernel
theorem dX10_one_111 : decode cX10_one 111 = .ok (.dup, 1) := by decide +kernel
theorem dX10_one_112 : decode cX10_one 112 = .ok (.getfield 199, 3) := by decide +kernel
theorem dX10_one_115 : decode cX10_one 115 = .ok (.iconst 1, 1) := by decide +kernel
theorem dX10_one_116 : decode cX10_one 116 = .ok (.isub, 1) := by decide +kernel
theorem dX10_one_117 : decode cX10_one 117 = .ok (.putfield 199, 3) := by decide +kernel
theorem dX10_one_120 : decode cX10_one 120 = .ok (.return_, 1) := by decide +kernel
theorem dX10_one_121 : decode cX10_one 121 = .ok (.aload_n 0, 1) := by decide +kernel
theorem dX10_one_122 : decode cX10_one 122 = .ok (.aload_n 0, 1) := by decide +kernel
theorem dX10_one_123 : decode cX10_one 123 = .ok (.getfield 143, 3) := by decide +kernel
theorem dX10_one_126 : decode cX10_one 126 = .ok (.invokevirtual 146, 3) := by decide +kernel
theorem dX10_one_129 : decode cX10_one 129 = .ok (.bipush 40, 2) := by decide +kernel
theorem dX10_one_131 : decode cX10_one 131 = .ok (.if_icmp .ne 42, 3) := by decide +kernel
theorem dX10_one_134 : decode cX10_one 134 = .ok (.aload_n 0, 1) := by decide +kernel
theorem dX10_one_135 : decode cX10_one 135 = .ok (.invokevirtual 274, 3) := by decide +kernel
theorem dX10_one_138 : decode cX10_one 138 = .ok (.ifCond .ne 4, 3) := by decide +kernel
theorem dX10_one_141 : decode cX10_one 141 = .ok (.return_, 1) := by decide +kernel
theorem dX10_one_142 : decode cX10_one 142 = .ok (.aload_n 0, 1) := by decide +kernel
theorem dX10_one_143 : decode cX10_one 143 = .ok (.dup, 1) := by decide +kernel
theorem dX10_one_144 : decode cX10_one 144 = .ok (.getfield 143, 3) := by decide +kernel
theorem dX10_one_147 : decode cX10_one 147 = .ok (.iconst 1, 1) := by decide +kernel
theorem dX10_one_148 : decode cX10_one 148 = .ok (.iadd, 1) := by decide +kernel
theorem dX10_one_149 : decode cX10_one 149 = .ok (.putfield 143, 3) := by decide +kernel
theorem dX10_one_152 : decode cX10_one 152 = .ok (.aload_n 0, 1) := by decide +kernel
theorem dX10_one_153 : decode cX10_one 153 = .ok (.invokevirtual 278, 3) := by decide +kernel
theorem dX10_one_156 : decode cX10_one 156 = .ok (.aload_n 0, 1) := by decide +kernel
theorem dX10_one_157 : decode cX10_one 157 = .ok (.bipush 41, 2) := by decide +kernel
theorem dX10_one_159 : decode cX10_one 159 = .ok (.invokevirtual 216, 3) := by decide +kernel
theorem dX10_one_162 : decode cX10_one 162 = .ok (.aload_n 0, 1) := by decide +kernel
theorem dX10_one_163 : decode cX10_one 163 = .ok (.dup, 1) := by decide +kernel
theorem dX10_one_164 : decode cX10_one 164 = .ok (.getfield 199, 3) := by decide +kernel
theorem dX10_one_167 : decode cX10_one 167 = .ok (.iconst 1, 1) := by decide +kernel
theorem dX10_one_168 : decode cX10_one 168 = .ok (.isub, 1) := by decide +kernel
theorem dX10_one_169 : decode cX10_one 169 = .ok (.putfield 199, 3) := by decide +kernel
theorem dX10_one_172 : decode cX10_one 172 = .ok (.return_, 1) := by decide +kernel
theorem dX10_one_173 : decode cX10_one 173 = .ok (.aload_n 0, 1) := by decide +kernel
theorem dX10_one_174 : decode cX10_one 174 = .ok (.invokevirtual 281, 3) := by decide +kernel
theorem dX10_one_177 : decode cX10_one 177 = .ok (.istore_n 2, 1) := by decide +kernel
theorem dX10_one_178 : decode cX10_one 178 = .ok (.iload_n 2, 1) := by decide +kernel
theorem dX10_one_179 : decode cX10_one 179 = .ok (.iconst (-1), 1) := by decide +kernel
theorem dX10_one_180 : decode cX10_one 180 = .ok (.if_icmp .eq 12, 3) := by decide +kernel
theorem dX10_one_183 : decode cX10_one 183 = .ok (.aload_n 0, 1) := by decide +kernel
theorem dX10_one_184 : decode cX10_one 184 = .ok (.iconst 1, 1) := by decide +kernel
theorem dX10_one_185 : decode cX10_one 185 = .ok (.iload_n 2, 1) := by decide +kernel
theorem dX10_one_186 : decode cX10_one 186 = .ok (.invokevirtual 265, 3) := by decide +kernel
theorem dX10_one_189 : decode cX10_one 189 = .ok (.goto 16, 3) := by decide +kernel
theorem dX10_one_192 : decode cX10_one 192 = .ok (.aload_n 0, 1) := by decide +kernel
theorem dX10_one_193 : decode cX10_one 193 = .ok (.iconst 0, 1) := by decide +kernel
theorem dX10_one_194 : decode cX10_one 194 = .ok (.aload_n 0, 1) := by decide +kernel
theorem dX10_one_195 : decode cX10_one 195 = .ok (.iconst 0, 1) := by decide +kernel
theorem dX10_one_196 : decode cX10_one 196 = .ok (.sipush 999, 3) := by decide +kernel
theorem dX10_one_199 : decode cX10_one 199 = .ok (.invokevirtual 202, 3) := by decide +kernel
theorem dX10_one_202 : decode cX10_one 202 = .ok (.invokevirtual 265, 3) := by decide +kernel
theorem dX10_one_205 : decode cX10_one 205 = .ok (.return_, 1) := by decide +kernel
def fX10_one_60 (RC : Nat → zV → Option zV)  (x0 : Nat) (s0 : Int32) (v : zV) : Option zV :=
  if s0 = (-1 : Int32) then
    zbind (fX10_byteAt x0 (v x0 4) v) fun r_2 v_1 =>
    if r_2 = (40 : Int32) then
      zbind (fX10_opens x0 v_1) fun r_10 v_9 =>
      if r_10 = (0 : Int32) then
        some v_9
      else
        zlet (zup v_9 x0 4 ((v_9 x0 4) + (1 : Int32))) fun v_11 =>
        zbindv (RC x0 v_11) fun v_12 =>
        zbindv (fX10_sign x0 (41 : Int32) v_12) fun v_13 =>
        zlet (zup v_13 x0 8 ((v_13 x0 8) - (1 : Int32))) fun v_14 =>
        some v_14
    else
      zbind (fX10_knownHere x0 v_1) fun r_4 v_3 =>
      if r_4 = (-1 : Int32) then
        zbind (fX10_number x0 (0 : Int32) (999 : Int32) v_3) fun r_6 v_5 =>
        zbindv (fX10_notes x0 (0 : Int32) r_6 v_5) fun v_7 =>
        some v_7
      else
        zbindv (fX10_notes x0 (1 : Int32) r_4 v_3) fun v_8 =>
        some v_8
  else
    zbind (fX10_opens x0 v) fun r_16 v_15 =>
    if r_16 = (0 : Int32) then
      some v_15
    else
      zbindv (fX10_skipWord x0 v_15) fun v_17 =>
      zbindv (fX10_sign x0 (91 : Int32) v_17) fun v_18 =>
      zbindv (RC x0 v_18) fun v_19 =>
      zbindv (fX10_sign x0 (44 : Int32) v_19) fun v_20 =>
      zbindv (RC x0 v_20) fun v_21 =>
      zbindv (fX10_sign x0 (93 : Int32) v_21) fun v_22 =>
      zbindv (fX10_notes x0 s0 (0 : Int32) v_22) fun v_23 =>
      zlet (zup v_23 x0 8 ((v_23 x0 8) - (1 : Int32))) fun v_24 =>
      some v_24
set_option maxRecDepth 4000 in
theorem jX10_one_60 (x : zCx) (G : zG) (fr0 lo0 : Nat) (RC : Nat → zV → Option zV) (hRC : ∀ (l : Launch) (x0 : Nat) (t0 : zty G x0 1 10) (v : zV) (w : zV), RC x0 v = some w → zMet l yX10_sum cX10_sum 2 (Option.none : Option FieldType) fr0 lo0 0 0 [zr G x0] G v none w) (F : zF x G cX10_one 3 RX10 (fr0 + 7) (lo0 + 221)) (hr : x.2.2.2.2.2.2.2.2.1.sig.returnType = (Option.none : Option FieldType)) (hk : x.2.2.2.2.2.2.2.2.1.locks = false) (w : zV)  : ∀ (x0 : Nat) (t0 : zty G x0 1 10) (s0 : Int32) (v : zV), fX10_one_60 RC x0 s0 v = some w → zJ x G 3 (zQ x G none w 0 0) 0 0 60 [(0, zr G x0)] [.int s0] v := by
  intro x0 t0 s0 v h
  unfold fX10_one_60 at h
  refine z_istore_n F [(1, .int s0), (0, zr G x0)] dX10_one_60 rfl (Nat.le_of_ble_eq_true rfl) rfl ?_
  refine z_iload_n F dX10_one_61 rfl 0 rfl ?_
  refine z_iconst (y := (-1 : Int32)) F dX10_one_62 rfl ?_
  refine z_icmp_eq F 121 dX10_one_63 rfl (fun hc => ?_) (fun hc => ?_)
  · replace h := zif_t hc h
    refine z_aload_n F dX10_one_121 rfl 1 rfl ?_
    refine z_aload_n F dX10_one_122 rfl 1 rfl ?_
    refine zg_10_4 F t0 wF_X10_143 dX10_one_123 ?_
    obtain ⟨r_2, v_1, hq126, h⟩ := zbind_ex h
    refine z_callVi F [.int (v x0 4)] [] (kX10_byteAt x.2.1 G x0 t0 (v x0 4) v r_2 v_1 hq126) mI_X10_byteAt (c := 10) rfl t0 wM_X10_146 mi_X10_byteAt sl_X10_byteAt dX10_one_126 rfl ⟨by omega, by omega⟩ rfl (Nat.le_of_ble_eq_true rfl) ⟨Nat.zero_le _, Nat.zero_le _⟩ ?_
    refine z_bipush (y := (40 : Int32)) F dX10_one_129 rfl ?_
    refine z_icmp_ne F 173 dX10_one_131 rfl (fun hc => ?_) (fun hc => ?_)
    · replace h := zif_f hc h
      refine z_aload_n F dX10_one_173 rfl 1 rfl ?_
      obtain ⟨r_4, v_3, hq174, h⟩ := zbind_ex h
      refine z_callVi F [] [] (kX10_knownHere x.2.1 G x0 t0 v_1 r_4 v_3 hq174) mI_X10_knownHere (c := 10) rfl t0 wM_X10_281 mi_X10_knownHere sl_X10_knownHere dX10_one_174 rfl ⟨by omega, by omega⟩ rfl (Nat.le_of_ble_eq_true rfl) ⟨Nat.zero_le _, Nat.zero_le _⟩ ?_
      refine z_istore_n F [(2, .int r_4), (1, .int s0), (0, zr G x0)] dX10_one_177 rfl (Nat.le_of_ble_eq_true rfl) rfl ?_
      refine z_iload_n F dX10_one_178 rfl 0 rfl ?_
      refine z_iconst (y := (-1 : Int32)) F dX10_one_179 rfl ?_
      refine z_icmp_eq F 192 dX10_one_180 rfl (fun hc => ?_) (fun hc => ?_)
      · replace h := zif_t hc h
        refine z_aload_n F dX10_one_192 rfl 2 rfl ?_
        refine z_iconst (y := (0 : Int32)) F dX10_one_193 rfl ?_
        refine z_aload_n F dX10_one_194 rfl 2 rfl ?_
        refine z_iconst (y := (0 : Int32)) F dX10_one_195 rfl ?_
        refine z_sipush (y := (999 : Int32)) F dX10_one_196 rfl ?_
        obtain ⟨r_6, v_5, hq199, h⟩ := zbind_ex h
        refine z_callVi F [.int (0 : Int32), .int (999 : Int32)] [.int (0 : Int32), zr G x0] (kX10_number x.2.1 G x0 t0 (0 : Int32) (999 : Int32) v_3 r_6 v_5 hq199) mI_X10_number (c := 10) rfl t0 wM_X10_202 mi_X10_number sl_X10_number dX10_one_199 rfl ⟨by omega, by omega⟩ rfl (Nat.le_of_ble_eq_true rfl) ⟨Nat.zero_le _, Nat.zero_le _⟩ ?_
        obtain ⟨v_7, hq202, h⟩ := zbindv_ex h
        refine z_callVv F [.int (0 : Int32), .int r_6] [] (kX10_notes x.2.1 G x0 t0 (0 : Int32) r_6 v_5 v_7 hq202) mI_X10_notes (c := 10) rfl t0 wM_X10_265 mi_X10_notes sl_X10_notes dX10_one_202 rfl ⟨by omega, by omega⟩ rfl (Nat.le_of_ble_eq_true rfl) ⟨Nat.zero_le _, Nat.zero_le _⟩ ?_
        cases h
        exact z_retv F hr hk dX10_one_205
      · replace h := zif_f hc h
        refine z_aload_n F dX10_one_183 rfl 2 rfl ?_
        refine z_iconst (y := (1 : Int32)) F dX10_one_184 rfl ?_
        refine z_iload_n F dX10_one_185 rfl 0 rfl ?_
        obtain ⟨v_8, hq186, h⟩ := zbindv_ex h
        refine z_callVv F [.int (1 : Int32), .int r_4] [] (kX10_notes x.2.1 G x0 t0 (1 : Int32) r_4 v_3 v_8 hq186) mI_X10_notes (c := 10) rfl t0 wM_X10_265 mi_X10_notes sl_X10_notes dX10_one_186 rfl ⟨by omega, by omega⟩ rfl (Nat.le_of_ble_eq_true rfl) ⟨Nat.zero_le _, Nat.zero_le _⟩ ?_
        refine z_goto F 205 dX10_one_189 rfl ?_
        cases h
        exact z_retv F hr hk dX10_one_205
    · replace h := zif_t hc h
      refine z_aload_n F dX10_one_134 rfl 1 rfl ?_
      obtain ⟨r_10, v_9, hq135, h⟩ := zbind_ex h
      refine z_callVi F [] [] (kX10_opens x.2.1 G x0 t0 v_1 r_10 v_9 hq135) mI_X10_opens (c := 10) rfl t0 wM_X10_274 mi_X10_opens sl_X10_opens dX10_one_135 rfl ⟨by omega, by omega⟩ rfl (Nat.le_of_ble_eq_true rfl) ⟨Nat.zero_le _, Nat.zero_le _⟩ ?_
      refine z_if_ne F 142 dX10_one_138 rfl (fun hc => ?_) (fun hc => ?_)
      · replace h := zif_f hc h
        refine z_aload_n F dX10_one_142 rfl 1 rfl ?_
        refine z_dup F dX10_one_143 rfl ?_
        refine zg_10_4 F t0 wF_X10_143 dX10_one_144 ?_
        refine z_iconst (y := (1 : Int32)) F dX10_one_147 rfl ?_
        refine z_iadd F dX10_one_148 ?_
        refine zp_10_4 F t0 wF_X10_143 dX10_one_149 ?_
        obtain ⟨v_11, ev_11, h⟩ := zlet_ex h
        refine z_heap ev_11 ?_
        refine z_aload_n F dX10_one_152 rfl 1 rfl ?_
        obtain ⟨v_12, hq153, h⟩ := zbindv_ex h
        refine z_callVv F [] [] (hRC x.2.1 x0 t0 v_11 v_12 hq153) mI_X10_sum (c := 10) rfl t0 wM_X10_278 mi_X10_sum sl_X10_sum dX10_one_153 rfl ⟨by omega, by omega⟩ rfl (Nat.le_of_ble_eq_true rfl) ⟨Nat.zero_le _, Nat.zero_le _⟩ ?_
        refine z_aload_n F dX10_one_156 rfl 1 rfl ?_
        refine z_bipush (y := (41 : Int32)) F dX10_one_157 rfl ?_
        obtain ⟨v_13, hq159, h⟩ := zbindv_ex h
        refine z_callVv F [.int (41 : Int32)] [] (kX10_sign x.2.1 G x0 t0 (41 : Int32) v_12 v_13 hq159) mI_X10_sign (c := 10) rfl t0 wM_X10_216 mi_X10_sign sl_X10_sign dX10_one_159 rfl ⟨by omega, by omega⟩ rfl (Nat.le_of_ble_eq_true rfl) ⟨Nat.zero_le _, Nat.zero_le _⟩ ?_
        refine z_aload_n F dX10_one_162 rfl 1 rfl ?_
        refine z_dup F dX10_one_163 rfl ?_
        refine zg_10_8 F t0 wF_X10_199 dX10_one_164 ?_
        refine z_iconst (y := (1 : Int32)) F dX10_one_167 rfl ?_
        refine z_isub F dX10_one_168 ?_
        refine zp_10_8 F t0 wF_X10_199 dX10_one_169 ?_
        obtain ⟨v_14, ev_14, h⟩ := zlet_ex h
        refine z_heap ev_14 ?_
        cases h
        exact z_retv F hr hk dX10_one_172
      · replace h := zif_t hc h
        cases h
        exact z_retv F hr hk dX10_one_141
  · replace h := zif_f hc h
    refine z_aload_n F dX10_one_66 rfl 1 rfl ?_
    obtain ⟨r_16, v_15, hq67, h⟩ := zbind_ex h
    refine z_callVi F [] [] (kX10_opens x.2.1 G x0 t0 v r_16 v_15 hq67) mI_X10_opens (c := 10) rfl t0 wM_X10_274 mi_X10_opens sl_X10_opens dX10_one_67 rfl ⟨by omega, by omega⟩ rfl (Nat.le_of_ble_eq_true rfl) ⟨Nat.zero_le _, Nat.zero_le _⟩ ?_
    refine z_if_ne F 74 dX10_one_70 rfl (fun hc => ?_) (fun hc => ?_)
    · replace h := zif_f hc h
      refine z_aload_n F dX10_one_74 rfl 1 rfl ?_
      obtain ⟨v_17, hq75, h⟩ := zbindv_ex h
      refine z_callVv F [] [] (kX10_skipWord x.2.1 G x0 t0 v_15 v_17 hq75) mI_X10_skipWord (c := 10) rfl t0 wM_X10_193 mi_X10_skipWord sl_X10_skipWord dX10_one_75 rfl ⟨by omega, by omega⟩ rfl (Nat.le_of_ble_eq_true rfl) ⟨Nat.zero_le _, Nat.zero_le _⟩ ?_
      refine z_aload_n F dX10_one_78 rfl 1 rfl ?_
      refine z_bipush (y := (91 : Int32)) F dX10_one_79 rfl ?_
      obtain ⟨v_18, hq81, h⟩ := zbindv_ex h
      refine z_callVv F [.int (91 : Int32)] [] (kX10_sign x.2.1 G x0 t0 (91 : Int32) v_17 v_18 hq81) mI_X10_sign (c := 10) rfl t0 wM_X10_216 mi_X10_sign sl_X10_sign dX10_one_81 rfl ⟨by omega, by omega⟩ rfl (Nat.le_of_ble_eq_true rfl) ⟨Nat.zero_le _, Nat.zero_le _⟩ ?_
      refine z_aload_n F dX10_one_84 rfl 1 rfl ?_
      obtain ⟨v_19, hq85, h⟩ := zbindv_ex h
      refine z_callVv F [] [] (hRC x.2.1 x0 t0 v_18 v_19 hq85) mI_X10_sum (c := 10) rfl t0 wM_X10_278 mi_X10_sum sl_X10_sum dX10_one_85 rfl ⟨by omega, by omega⟩ rfl (Nat.le_of_ble_eq_true rfl) ⟨Nat.zero_le _, Nat.zero_le _⟩ ?_
      refine z_aload_n F dX10_one_88 rfl 1 rfl ?_
      refine z_bipush (y := (44 : Int32)) F dX10_one_89 rfl ?_
      obtain ⟨v_20, hq91, h⟩ := zbindv_ex h
      refine z_callVv F [.int (44 : Int32)] [] (kX10_sign x.2.1 G x0 t0 (44 : Int32) v_19 v_20 hq91) mI_X10_sign (c := 10) rfl t0 wM_X10_216 mi_X10_sign sl_X10_sign dX10_one_91 rfl ⟨by omega, by omega⟩ rfl (Nat.le_of_ble_eq_true rfl) ⟨Nat.zero_le _, Nat.zero_le _⟩ ?_
      refine z_aload_n F dX10_one_94 rfl 1 rfl ?_
      obtain ⟨v_21, hq95, h⟩ := zbindv_ex h
      refine z_callVv F [] [] (hRC x.2.1 x0 t0 v_20 v_21 hq95) mI_X10_sum (c := 10) rfl t0 wM_X10_278 mi_X10_sum sl_X10_sum dX10_one_95 rfl ⟨by omega, by omega⟩ rfl (Nat.le_of_ble_eq_true rfl) ⟨Nat.zero_le _, Nat.zero_le _⟩ ?_
      refine z_aload_n F dX10_one_98 rfl 1 rfl ?_
      refine z_bipush (y := (93 : Int32)) F dX10_one_99 rfl ?_
      obtain ⟨v_22, hq101, h⟩ := zbindv_ex h
      refine z_callVv F [.int (93 : Int32)] [] (kX10_sign x.2.1 G x0 t0 (93 : Int32) v_21 v_22 hq101) mI_X10_sign (c := 10) rfl t0 wM_X10_216 mi_X10_sign sl_X10_sign dX10_one_101 rfl ⟨by omega, by omega⟩ rfl (Nat.le_of_ble_eq_true rfl) ⟨Nat.zero_le _, Nat.zero_le _⟩ ?_
      refine z_aload_n F dX10_one_104 rfl 1 rfl ?_
      refine z_iload_n F dX10_one_105 rfl 0 rfl ?_
      refine z_iconst (y := (0 : Int32)) F dX10_one_106 rfl ?_
      obtain ⟨v_23, hq107, h⟩ := zbindv_ex h
      refine z_callVv F [.int s0, .int (0 : Int32)] [] (kX10_notes x.2.1 G x0 t0 s0 (0 : Int32) v_22 v_23 hq107) mI_X10_notes (c := 10) rfl t0 wM_X10_265 mi_X10_notes sl_X10_notes dX10_one_107 rfl ⟨by omega, by omega⟩ rfl (Nat.le_of_ble_eq_true rfl) ⟨Nat.zero_le _, Nat.zero_le _⟩ ?_
      refine z_aload_n F dX10_one_110 rfl 1 rfl ?_
      refine z_dup F dX10_one_111 rfl ?_
      refine zg_10_8 F t0 wF_X10_199 dX10_one_112 ?_
      refine z_iconst (y := (1 : Int32)) F dX10_one_115 rfl ?_
      refine z_isub F dX10_one_116 ?_
      refine zp_10_8 F t0 wF_X10_199 dX10_one_117 ?_
      obtain ⟨v_24, ev_24, h⟩ := zlet_ex h
      refine z_heap ev_24 ?_
      cases h
      exact z_retv F hr hk dX10_one_120
    · replace h := zif_t hc h
      cases h
      exact z_retv F hr hk dX10_one_73

def fX10_one (RC : Nat → zV → Option zV) (x0 : Nat) (v : zV) : Option zV :=
  if (v x0 5) = (0 : Int32) then
    zbindv (fX10_blanks x0 v) fun v_1 =>
    zbind (fX10_isWord x0 (12 : Int32) (5 : Int32) (1 : Int32) (19 : Int32) (20 : Int32) (0 : Int32) (0 : Int32) (0 : Int32) v_1) fun r_3 v_2 =>
    if r_3 = (0 : Int32) then
      zbind (fX10_isWord x0 (13 : Int32) (15 : Int32) (19 : Int32) (20 : Int32) (0 : Int32) (0 : Int32) (0 : Int32) (0 : Int32) v_2) fun r_5 v_4 =>
      if r_5 = (0 : Int32) then
        fX10_one_60 RC  x0 (-1 : Int32) v_4
      else
        fX10_one_60 RC  x0 (7 : Int32) v_4
    else
      fX10_one_60 RC  x0 (6 : Int32) v_2
  else
    some v
set_option maxRecDepth 4000 in
theorem kX10_one (l : Launch) (G : zG) (fr0 lo0 : Nat) (RC : Nat → zV → Option zV) (hRC : ∀ (l : Launch) (x0 : Nat) (t0 : zty G x0 1 10) (v : zV) (w : zV), RC x0 v = some w → zMet l yX10_sum cX10_sum 2 (Option.none : Option FieldType) fr0 lo0 0 0 [zr G x0] G v none w) (x0 : Nat) (t0 : zty G x0 1 10) (v : zV) (w : zV) (h : fX10_one RC x0 v = some w) : zMet l yX10_one cX10_one 3 (Option.none : Option FieldType) (fr0 + 7) (lo0 + 221) 0 0 [zr G x0] G v none w := by
  refine zM_of (own := RX10) (by decide) rfl (Nat.le_of_ble_eq_true rfl) (fun x hl F hr hk hcs => ?_)
  subst hl
  refine z_ls [(0, zr G x0)] [0] rfl ?_
  unfold fX10_one at h
  refine z_aload_n F dX10_one_0 rfl 0 rfl ?_
  refine zg_10_5 F t0 wF_X10_150 dX10_one_1 ?_
  refine z_if_eq F 8 dX10_one_4 rfl (fun hc => ?_) (fun hc => ?_)
  · replace h := zif_t hc h
    refine z_aload_n F dX10_one_8 rfl 0 rfl ?_
    obtain ⟨v_1, hq9, h⟩ := zbindv_ex h
    refine z_callVv F [] [] (kX10_blanks x.2.1 G x0 t0 v v_1 hq9) mI_X10_blanks (c := 10) rfl t0 wM_X10_156 mi_X10_blanks sl_X10_blanks dX10_one_9 rfl ⟨by omega, by omega⟩ rfl (Nat.le_of_ble_eq_true rfl) ⟨Nat.zero_le _, Nat.zero_le _⟩ ?_
    refine z_aload_n F dX10_one_12 rfl 0 rfl ?_
    refine z_bipush (y := (12 : Int32)) F dX10_one_13 rfl ?_
    refine z_iconst (y := (5 : Int32)) F dX10_one_15 rfl ?_
    refine z_iconst (y := (1 : Int32)) F dX10_one_16 rfl ?_
    refine z_bipush (y := (19 : Int32)) F dX10_one_17 rfl ?_
    refine z_bipush (y := (20 : Int32)) F dX10_one_19 rfl ?_
    refine z_iconst (y := (0 : Int32)) F dX10_one_21 rfl ?_
    refine z_iconst (y := (0 : Int32)) F dX10_one_22 rfl ?_
    refine z_iconst (y := (0 : Int32)) F dX10_one_23 rfl ?_
    obtain ⟨r_3, v_2, hq24, h⟩ := zbind_ex h
    refine z_callVi F [.int (12 : Int32), .int (5 : Int32), .int (1 : Int32), .int (19 : Int32), .int (20 : Int32), .int (0 : Int32), .int (0 : Int32), .int (0 : Int32)] [] (kX10_isWord x.2.1 G x0 t0 (12 : Int32) (5 : Int32) (1 : Int32) (19 : Int32) (20 : Int32) (0 : Int32) (0 : Int32) (0 : Int32) v_1 r_3 v_2 hq24) mI_X10_isWord (c := 10) rfl t0 wM_X10_189 mi_X10_isWord sl_X10_isWord dX10_one_24 rfl ⟨by omega, by omega⟩ rfl (Nat.le_of_ble_eq_true rfl) ⟨Nat.zero_le _, Nat.zero_le _⟩ ?_
    refine z_if_eq F 35 dX10_one_27 rfl (fun hc => ?_) (fun hc => ?_)
    · replace h := zif_t hc h
      refine z_aload_n F dX10_one_35 rfl 0 rfl ?_
      refine z_bipush (y := (13 : Int32)) F dX10_one_36 rfl ?_
      refine z_bipush (y := (15 : Int32)) F dX10_one_38 rfl ?_
      refine z_bipush (y := (19 : Int32)) F dX10_one_40 rfl ?_
      refine z_bipush (y := (20 : Int32)) F dX10_one_42 rfl ?_
      refine z_iconst (y := (0 : Int32)) F dX10_one_44 rfl ?_
      refine z_iconst (y := (0 : Int32)) F dX10_one_45 rfl ?_
      refine z_iconst (y := (0 : Int32)) F dX10_one_46 rfl ?_
      refine z_iconst (y := (0 : Int32)) F dX10_one_47 rfl ?_
      obtain ⟨r_5, v_4, hq48, h⟩ := zbind_ex h
      refine z_callVi F [.int (13 : Int32), .int (15 : Int32), .int (19 : Int32), .int (20 : Int32), .int (0 : Int32), .int (0 : Int32), .int (0 : Int32), .int (0 : Int32)] [] (kX10_isWord x.2.1 G x0 t0 (13 : Int32) (15 : Int32) (19 : Int32) (20 : Int32) (0 : Int32) (0 : Int32) (0 : Int32) (0 : Int32) v_2 r_5 v_4 hq48) mI_X10_isWord (c := 10) rfl t0 wM_X10_189 mi_X10_isWord sl_X10_isWord dX10_one_48 rfl ⟨by omega, by omega⟩ rfl (Nat.le_of_ble_eq_true rfl) ⟨Nat.zero_le _, Nat.zero_le _⟩ ?_
      refine z_if_eq F 59 dX10_one_51 rfl (fun hc => ?_) (fun hc => ?_)
      · replace h := zif_t hc h
        refine z_iconst (y := (-1 : Int32)) F dX10_one_59 rfl ?_
        refine z_ls [(0, zr G x0)] [0] rfl ?_
        exact jX10_one_60 x G fr0 lo0 RC hRC F hr hk w   x0 t0 (-1 : Int32) v_4 h
      · replace h := zif_f hc h
        refine z_bipush (y := (7 : Int32)) F dX10_one_54 rfl ?_
        refine z_goto F 60 dX10_one_56 rfl ?_
        refine z_ls [(0, zr G x0)] [0] rfl ?_
        exact jX10_one_60 x G fr0 lo0 RC hRC F hr hk w   x0 t0 (7 : Int32) v_4 h
    · replace h := zif_f hc h
      refine z_bipush (y := (6 : Int32)) F dX10_one_30 rfl ?_
      refine z_goto F 60 dX10_one_32 rfl ?_
      refine z_ls [(0, zr G x0)] [0] rfl ?_
      exact jX10_one_60 x G fr0 lo0 RC hRC F hr hk w   x0 t0 (6 : Int32) v_2 h
  · replace h := zif_f hc h
    cases h
    exact z_retv F hr hk dX10_one_7

theorem dX10_product_0 : decode cX10_product 0 = .ok (.aload_n 0, 1) := by decide +kernel
theorem dX10_product_1 : decode cX10_product 1 = .ok (.invokevirtual 268, 3) := by decide +kernel
theorem dX10_product_4 : decode cX10_product 4 = .ok (.aload_n 0, 1) := by decide +kernel
theorem dX10_product_5 : decode cX10_product 5 = .ok (.getfield 150, 3) := by decide +kernel
theorem dX10_product_8 : decode cX10_product 8 = .ok (.ifCond .ne 50, 3) := by decide +kernel
theorem dX10_product_11 : decode cX10_product 11 = .ok (.aload_n 0, 1) := by decide +kernel
theorem dX10_product_12 : decode cX10_product 12 = .ok (.bipush 42, 2) := by decide +kernel
theorem dX10_product_14 : decode cX10_product 14 = .ok (.invokevirtual 262, 3) := by decide +kernel
theorem dX10_product_17 : decode cX10_product 17 = .ok (.ifCond .eq 7, 3) := by decide +kernel
theorem dX10_product_20 : decode cX10_product 20 = .ok (.iconst 4, 1) := by decide +kernel
theorem dX10_product_21 : decode cX10_product 21 = .ok (.goto 17, 3) := by decide +kernel
theorem dX10_product_24 : decode cX10_product 24 = .ok (.aload_n 0, 1) := by decide +kernel
theorem dX10_product_25 : decode cX10_product 25 = .ok (.bipush 47, 2) := by decide +kernel
theorem dX10_product_27 : decode cX10_product 27 = .ok (.invokevirtual 262, 3) := by decide +kernel
theorem dX10_product_30 : decode cX10_product 30 = .ok (.ifCond .eq 7, 3) := by decide +kernel
theorem dX10_product_33 : decode cX10_product 33 = .ok (.iconst 5, 1) := by decide +kernel
theorem dX10_product_34 : decode cX10_product 34 = .ok (.goto 4, 3) := by decide +kernel
theorem dX10_product_37 : decode cX10_product 37 = .ok (.iconst (-1), 1) := by decide +kernel
theorem dX10_product_38 : decode cX10_product 38 = .ok (.istore_n 1, 1) := by decide +kernel
theorem dX10_product_39 : decode cX10_product 39 = .ok (.iload_n 1, 1) := by decide +kernel
theorem dX10_product_40 : decode cX10_product 40 = .ok (.iconst (-1), 1) := by decide +kernel
theorem dX10_product_41 : decode cX10_product 41 = .ok (.if_icmp .ne 4, 3) := by decide +kernel
theorem dX10_product_44 : decode cX10_product 44 = .ok (.return_, 1) := by decide +kernel
theorem dX10_product_45 : decode cX10_product 45 = .ok (.aload_n 0, 1) := by decide +kernel
theorem dX10_product_46 : decode cX10_product 46 = .ok (.invokevirtual 268, 3) := by decide +kernel
theorem dX10_product_49 : decode cX10_product 49 = .ok (.aload_n 0, 1) := by decide +kernel
theorem dX10_product_50 : decode cX10_product 50 = .ok (.iload_n 1, 1) := by decide +kernel
theorem dX10_product_51 : decode cX10_product 51 = .ok (.iconst 0, 1) := by decide +kernel
theorem dX10_product_52 : decode cX10_product 52 = .ok (.invokevirtual 265, 3) := by decide +kernel
theorem dX10_product_55 : decode cX10_product 55 = .ok (.goto (-51), 3) := by decide +kernel
theorem dX10_product_58 : decode cX10_product 58 = .ok (.return_, 1) := by decide +kernel
def fX10_product_38 (RC : Nat → zV → Option zV) (K4 : Nat → zV → Option zV) (x0 : Nat) (s0 : Int32) (v : zV) : Option zV :=
  if s0 = (-1 : Int32) then
    some v
  else
    zbindv (fX10_one RC x0 v) fun v_1 =>
    zbindv (fX10_notes x0 s0 (0 : Int32) v_1) fun v_2 =>
    K4 x0 v_2
set_option maxRecDepth 4000 in
theorem jX10_product_38 (x : zCx) (G : zG) (fr0 lo0 : Nat) (RC : Nat → zV → Option zV) (hRC : ∀ (l : Launch) (x0 : Nat) (t0 : zty G x0 1 10) (v : zV) (w : zV), RC x0 v = some w → zMet l yX10_sum cX10_sum 2 (Option.none : Option FieldType) fr0 lo0 0 0 [zr G x0] G v none w) (F : zF x G cX10_product 2 RX10 (fr0 + 8) (lo0 + 243)) (hr : x.2.2.2.2.2.2.2.2.1.sig.returnType = (Option.none : Option FieldType)) (hk : x.2.2.2.2.2.2.2.2.1.locks = false) (w : zV) (K4 : Nat → zV → Option zV) (hK4 : ∀ (x0 : Nat) (t0 : zty G x0 1 10) (v : zV), K4 x0 v = some w → zJ x G 2 (zQ x G none w 0 0) 0 0 4 [(0, zr G x0)] [] v) : ∀ (x0 : Nat) (t0 : zty G x0 1 10) (s0 : Int32) (v : zV), fX10_product_38 RC K4 x0 s0 v = some w → zJ x G 2 (zQ x G none w 0 0) 0 0 38 [(0, zr G x0)] [.int s0] v := by
  intro x0 t0 s0 v h
  unfold fX10_product_38 at h
  refine z_istore_n F [(1, .int s0), (0, zr G x0)] dX10_product_38 rfl (Nat.le_of_ble_eq_true rfl) rfl ?_
  refine z_iload_n F dX10_product_39 rfl 0 rfl ?_
  refine z_iconst (y := (-1 : Int32)) F dX10_product_40 rfl ?_
  refine z_icmp_ne F 45 dX10_product_41 rfl (fun hc => ?_) (fun hc => ?_)
  · replace h := zif_f hc h
    refine z_aload_n F dX10_product_45 rfl 1 rfl ?_
    obtain ⟨v_1, hq46, h⟩ := zbindv_ex h
    refine z_callVv F [] [] (kX10_one x.2.1 G fr0 lo0 RC hRC x0 t0 v v_1 hq46) mI_X10_one (c := 10) rfl t0 wM_X10_268 mi_X10_one sl_X10_one dX10_product_46 rfl ⟨by omega, by omega⟩ rfl (Nat.le_of_ble_eq_true rfl) ⟨Nat.zero_le _, Nat.zero_le _⟩ ?_
    refine z_aload_n F dX10_product_49 rfl 1 rfl ?_
    refine z_iload_n F dX10_product_50 rfl 0 rfl ?_
    refine z_iconst (y := (0 : Int32)) F dX10_product_51 rfl ?_
    obtain ⟨v_2, hq52, h⟩ := zbindv_ex h
    refine z_callVv F [.int s0, .int (0 : Int32)] [] (kX10_notes x.2.1 G x0 t0 s0 (0 : Int32) v_1 v_2 hq52) mI_X10_notes (c := 10) rfl t0 wM_X10_265 mi_X10_notes sl_X10_notes dX10_product_52 rfl ⟨by omega, by omega⟩ rfl (Nat.le_of_ble_eq_true rfl) ⟨Nat.zero_le _, Nat.zero_le _⟩ ?_
    refine z_goto F 4 dX10_product_55 rfl ?_
    refine z_ls [(0, zr G x0)] [1] rfl ?_
    exact hK4 x0 t0 v_2 h
  · replace h := zif_t hc h
    cases h
    exact z_retv F hr hk dX10_product_44

def fX10_product_4 (RC : Nat → zV → Option zV)  : Nat → Nat → zV → Option zV
  | 0 => fun _ _ => none
  | n + 1 => fun x0 v =>
    if (v x0 5) = (0 : Int32) then
      zbind (fX10_takesSign x0 (42 : Int32) v) fun r_2 v_1 =>
      if r_2 = (0 : Int32) then
        zbind (fX10_takesSign x0 (47 : Int32) v_1) fun r_4 v_3 =>
        if r_4 = (0 : Int32) then
          fX10_product_38 RC (fX10_product_4 RC n) x0 (-1 : Int32) v_3
        else
          fX10_product_38 RC (fX10_product_4 RC n) x0 (5 : Int32) v_3
      else
        fX10_product_38 RC (fX10_product_4 RC n) x0 (4 : Int32) v_1
    else
      some v
set_option maxRecDepth 4000 in
theorem jX10_product_4 (x : zCx) (G : zG) (fr0 lo0 : Nat) (RC : Nat → zV → Option zV) (hRC : ∀ (l : Launch) (x0 : Nat) (t0 : zty G x0 1 10) (v : zV) (w : zV), RC x0 v = some w → zMet l yX10_sum cX10_sum 2 (Option.none : Option FieldType) fr0 lo0 0 0 [zr G x0] G v none w) (F : zF x G cX10_product 2 RX10 (fr0 + 8) (lo0 + 243)) (hr : x.2.2.2.2.2.2.2.2.1.sig.returnType = (Option.none : Option FieldType)) (hk : x.2.2.2.2.2.2.2.2.1.locks = false) (w : zV)  : ∀ (n : Nat) (x0 : Nat) (t0 : zty G x0 1 10) (v : zV), fX10_product_4 RC n x0 v = some w → zJ x G 2 (zQ x G none w 0 0) 0 0 4 [(0, zr G x0)] [] v := by
  intro n
  induction n with
  | zero => intro x0 t0 v h; exact absurd h (by intro q; cases q)
  | succ n ih =>
    intro x0 t0 v h
    rw [fX10_product_4] at h
    dsimp only at h
    refine z_aload_n F dX10_product_4 rfl 0 rfl ?_
    refine zg_10_5 F t0 wF_X10_150 dX10_product_5 ?_
    refine z_if_ne F 58 dX10_product_8 rfl (fun hc => ?_) (fun hc => ?_)
    · replace h := zif_f hc h
      cases h
      exact z_retv F hr hk dX10_product_58
    · replace h := zif_t hc h
      refine z_aload_n F dX10_product_11 rfl 0 rfl ?_
      refine z_bipush (y := (42 : Int32)) F dX10_product_12 rfl ?_
      obtain ⟨r_2, v_1, hq14, h⟩ := zbind_ex h
      refine z_callVi F [.int (42 : Int32)] [] (kX10_takesSign x.2.1 G x0 t0 (42 : Int32) v r_2 v_1 hq14) mI_X10_takesSign (c := 10) rfl t0 wM_X10_262 mi_X10_takesSign sl_X10_takesSign dX10_product_14 rfl ⟨by omega, by omega⟩ rfl (Nat.le_of_ble_eq_true rfl) ⟨Nat.zero_le _, Nat.zero_le _⟩ ?_
      refine z_if_eq F 24 dX10_product_17 rfl (fun hc => ?_) (fun hc => ?_)
      · replace h := zif_t hc h
        refine z_aload_n F dX10_product_24 rfl 0 rfl ?_
        refine z_bipush (y := (47 : Int32)) F dX10_product_25 rfl ?_
        obtain ⟨r_4, v_3, hq27, h⟩ := zbind_ex h
        refine z_callVi F [.int (47 : Int32)] [] (kX10_takesSign x.2.1 G x0 t0 (47 : Int32) v_1 r_4 v_3 hq27) mI_X10_takesSign (c := 10) rfl t0 wM_X10_262 mi_X10_takesSign sl_X10_takesSign dX10_product_27 rfl ⟨by omega, by omega⟩ rfl (Nat.le_of_ble_eq_true rfl) ⟨Nat.zero_le _, Nat.zero_le _⟩ ?_
        refine z_if_eq F 37 dX10_product_30 rfl (fun hc => ?_) (fun hc => ?_)
        · replace h := zif_t hc h
          refine z_iconst (y := (-1 : Int32)) F dX10_product_37 rfl ?_
          refine z_ls [(0, zr G x0)] [0] rfl ?_
          exact jX10_product_38 x G fr0 lo0 RC hRC F hr hk w (fX10_product_4 RC n) ih x0 t0 (-1 : Int32) v_3 h
        · replace h := zif_f hc h
          refine z_iconst (y := (5 : Int32)) F dX10_product_33 rfl ?_
          refine z_goto F 38 dX10_product_34 rfl ?_
          refine z_ls [(0, zr G x0)] [0] rfl ?_
          exact jX10_product_38 x G fr0 lo0 RC hRC F hr hk w (fX10_product_4 RC n) ih x0 t0 (5 : Int32) v_3 h
      · replace h := zif_f hc h
        refine z_iconst (y := (4 : Int32)) F dX10_product_20 rfl ?_
        refine z_goto F 38 dX10_product_21 rfl ?_
        refine z_ls [(0, zr G x0)] [0] rfl ?_
        exact jX10_product_38 x G fr0 lo0 RC hRC F hr hk w (fX10_product_4 RC n) ih x0 t0 (4 : Int32) v_1 h

def fX10_product (RC : Nat → zV → Option zV) (x0 : Nat) (v : zV) : Option zV :=
  zbindv (fX10_one RC x0 v) fun v_1 =>
  fX10_product_4 RC  zFU x0 v_1
set_option maxRecDepth 4000 in
theorem kX10_product (l : Launch) (G : zG) (fr0 lo0 : Nat) (RC : Nat → zV → Option zV) (hRC : ∀ (l : Launch) (x0 : Nat) (t0 : zty G x0 1 10) (v : zV) (w : zV), RC x0 v = some w → zMet l yX10_sum cX10_sum 2 (Option.none : Option FieldType) fr0 lo0 0 0 [zr G x0] G v none w) (x0 : Nat) (t0 : zty G x0 1 10) (v : zV) (w : zV) (h : fX10_product RC x0 v = some w) : zMet l yX10_product cX10_product 2 (Option.none : Option FieldType) (fr0 + 8) (lo0 + 243) 0 0 [zr G x0] G v none w := by
  refine zM_of (own := RX10) (by decide) rfl (Nat.le_of_ble_eq_true rfl) (fun x hl F hr hk hcs => ?_)
  subst hl
  refine z_ls [(0, zr G x0)] [0] rfl ?_
  unfold fX10_product at h
  refine z_aload_n F dX10_product_0 rfl 0 rfl ?_
  obtain ⟨v_1, hq1, h⟩ := zbindv_ex h
  refine z_callVv F [] [] (kX10_one x.2.1 G fr0 lo0 RC hRC x0 t0 v v_1 hq1) mI_X10_one (c := 10) rfl t0 wM_X10_268 mi_X10_one sl_X10_one dX10_product_1 rfl ⟨by omega, by omega⟩ rfl (Nat.le_of_ble_eq_true rfl) ⟨Nat.zero_le _, Nat.zero_le _⟩ ?_
  refine z_ls [(0, zr G x0)] [0] rfl ?_
  exact jX10_product_4 x G fr0 lo0 RC hRC F hr hk w   zFU x0 t0 v_1 h

theorem dX10_sum_0 : decode cX10_sum 0 = .ok (.aload_n 0, 1) := by decide +kernel
theorem dX10_sum_1 : decode cX10_sum 1 = .ok (.invokevirtual 259, 3) := by decide +kernel
theorem dX10_sum_4 : decode cX10_sum 4 = .ok (.aload_n 0, 1) := by decide +kernel
theorem dX10_sum_5 : decode cX10_sum 5 = .ok (.getfield 150, 3) := by decide +kernel
theorem dX10_sum_8 : decode cX10_sum 8 = .ok (.ifCond .ne 50, 3) := by decide +kernel
theorem dX10_sum_11 : decode cX10_sum 11 = .ok (.aload_n 0, 1) := by decide +kernel
theorem dX10_sum_12 : decode cX10_sum 12 = .ok (.bipush 43, 2) := by decide +kernel
theorem dX10_sum_14 : decode cX10_sum 14 = .ok (.invokevirtual 262, 3) := by decide +kernel
theorem dX10_sum_17 : decode cX10_sum 17 = .ok (.ifCond .eq 7, 3) := by decide +kernel
theorem dX10_sum_20 : decode cX10_sum 20 = .ok (.iconst 2, 1) := by decide +kernel
theorem dX10_sum_21 : decode cX10_sum 21 = .ok (.goto 17, 3) := by decide +kernel
theorem dX10_sum_24 : decode cX10_sum 24 = .ok (.aload_n 0, 1) := by decide +kernel
theorem dX10_sum_25 : decode cX10_sum 25 = .ok (.bipush 45, 2) := by decide +kernel
theorem dX10_sum_27 : decode cX10_sum 27 = .ok (.invokevirtual 262, 3) := by decide +kernel
theorem dX10_sum_30 : decode cX10_sum 30 = .ok (.ifCond .eq 7, 3) := by decide +kernel
theorem dX10_sum_33 : decode cX10_sum 33 = .ok (.iconst 3, 1) := by decide +kernel
theorem dX10_sum_34 : decode cX10_sum 34 = .ok (.goto 4, 3) := by decide +kernel
theorem dX10_sum_37 : decode cX10_sum 37 = .ok (.iconst (-1), 1) := by decide +kernel
theorem dX10_sum_38 : decode cX10_sum 38 = .ok (.istore_n 1, 1) := by decide +kernel
theorem dX10_sum_39 : decode cX10_sum 39 = .ok (.iload_n 1, 1) := by decide +kernel
theorem dX10_sum_40 : decode cX10_sum 40 = .ok (.iconst (-1), 1) := by decide +kernel
theorem dX10_sum_41 : decode cX10_sum 41 = .ok (.if_icmp .ne 4, 3) := by decide +kernel
theorem dX10_sum_44 : decode cX10_sum 44 = .ok (.return_, 1) := by decide +kernel
theorem dX10_sum_45 : decode cX10_sum 45 = .ok (.aload_n 0, 1) := by decide +kernel
theorem dX10_sum_46 : decode cX10_sum 46 = .ok (.invokevirtual 259, 3) := by decide +kernel
theorem dX10_sum_49 : decode cX10_sum 49 = .ok (.aload_n 0, 1) := by decide +kernel
theorem dX10_sum_50 : decode cX10_sum 50 = .ok (.iload_n 1, 1) := by decide +kernel
theorem dX10_sum_51 : decode cX10_sum 51 = .ok (.iconst 0, 1) := by decide +kernel
theorem dX10_sum_52 : decode cX10_sum 52 = .ok (.invokevirtual 265, 3) := by decide +kernel
theorem dX10_sum_55 : decode cX10_sum 55 = .ok (.goto (-51), 3) := by decide +kernel
theorem dX10_sum_58 : decode cX10_sum 58 = .ok (.return_, 1) := by decide +kernel
def fX10_sum_38 (RC : Nat → zV → Option zV) (K4 : Nat → zV → Option zV) (x0 : Nat) (s0 : Int32) (v : zV) : Option zV :=
  if s0 = (-1 : Int32) then
    some v
  else
    zbindv (fX10_product RC x0 v) fun v_1 =>
    zbindv (fX10_notes x0 s0 (0 : Int32) v_1) fun v_2 =>
    K4 x0 v_2
set_option maxRecDepth 4000 in
theorem jX10_sum_38 (x : zCx) (G : zG) (fr0 lo0 : Nat) (RC : Nat → zV → Option zV) (hRC : ∀ (l : Launch) (x0 : Nat) (t0 : zty G x0 1 10) (v : zV) (w : zV), RC x0 v = some w → zMet l yX10_sum cX10_sum 2 (Option.none : Option FieldType) fr0 lo0 0 0 [zr G x0] G v none w) (F : zF x G cX10_sum 2 RX10 (fr0 + 9) (lo0 + 264)) (hr : x.2.2.2.2.2.2.2.2.1.sig.returnType = (Option.none : Option FieldType)) (hk : x.2.2.2.2.2.2.2.2.1.locks = false) (w : zV) (K4 : Nat → zV → Option zV) (hK4 : ∀ (x0 : Nat) (t0 : zty G x0 1 10) (v : zV), K4 x0 v = some w → zJ x G 2 (zQ x G none w 0 0) 0 0 4 [(0, zr G x0)] [] v) : ∀ (x0 : Nat) (t0 : zty G x0 1 10) (s0 : Int32) (v : zV), fX10_sum_38 RC K4 x0 s0 v = some w → zJ x G 2 (zQ x G none w 0 0) 0 0 38 [(0, zr G x0)] [.int s0] v := by
  intro x0 t0 s0 v h
  unfold fX10_sum_38 at h
  refine z_istore_n F [(1, .int s0), (0, zr G x0)] dX10_sum_38 rfl (Nat.le_of_ble_eq_true rfl) rfl ?_
  refine z_iload_n F dX10_sum_39 rfl 0 rfl ?_
  refine z_iconst (y := (-1 : Int32)) F dX10_sum_40 rfl ?_
  refine z_icmp_ne F 45 dX10_sum_41 rfl (fun hc => ?_) (fun hc => ?_)
  · replace h := zif_f hc h
    refine z_aload_n F dX10_sum_45 rfl 1 rfl ?_
    obtain ⟨v_1, hq46, h⟩ := zbindv_ex h
    refine z_callVv F [] [] (kX10_product x.2.1 G fr0 lo0 RC hRC x0 t0 v v_1 hq46) mI_X10_product (c := 10) rfl t0 wM_X10_259 mi_X10_product sl_X10_product dX10_sum_46 rfl ⟨by omega, by omega⟩ rfl (Nat.le_of_ble_eq_true rfl) ⟨Nat.zero_le _, Nat.zero_le _⟩ ?_
    refine z_aload_n F dX10_sum_49 rfl 1 rfl ?_
    refine z_iload_n F dX10_sum_50 rfl 0 rfl ?_
    refine z_iconst (y := (0 : Int32)) F dX10_sum_51 rfl ?_
    obtain ⟨v_2, hq52, h⟩ := zbindv_ex h
    refine z_callVv F [.int s0, .int (0 : Int32)] [] (kX10_notes x.2.1 G x0 t0 s0 (0 : Int32) v_1 v_2 hq52) mI_X10_notes (c := 10) rfl t0 wM_X10_265 mi_X10_notes sl_X10_notes dX10_sum_52 rfl ⟨by omega, by omega⟩ rfl (Nat.le_of_ble_eq_true rfl) ⟨Nat.zero_le _, Nat.zero_le _⟩ ?_
    refine z_goto F 4 dX10_sum_55 rfl ?_
    refine z_ls [(0, zr G x0)] [1] rfl ?_
    exact hK4 x0 t0 v_2 h
  · replace h := zif_t hc h
    cases h
    exact z_retv F hr hk dX10_sum_44

def fX10_sum_4 (RC : Nat → zV → Option zV)  : Nat → Nat → zV → Option zV
  | 0 => fun _ _ => none
  | n + 1 => fun x0 v =>
    if (v x0 5) = (0 : Int32) then
      zbind (fX10_takesSign x0 (43 : Int32) v) fun r_2 v_1 =>
      if r_2 = (0 : Int32) then
        zbind (fX10_takesSign x0 (45 : Int32) v_1) fun r_4 v_3 =>
        if r_4 = (0 : Int32) then
          fX10_sum_38 RC (fX10_sum_4 RC n) x0 (-1 : Int32) v_3
        else
          fX10_sum_38 RC (fX10_sum_4 RC n) x0 (3 : Int32) v_3
      else
        fX10_sum_38 RC (fX10_sum_4 RC n) x0 (2 : Int32) v_1
    else
      some v
set_option maxRecDepth 4000 in
theorem jX10_sum_4 (x : zCx) (G : zG) (fr0 lo0 : Nat) (RC : Nat → zV → Option zV) (hRC : ∀ (l : Launch) (x0 : Nat) (t0 : zty G x0 1 10) (v : zV) (w : zV), RC x0 v = some w → zMet l yX10_sum cX10_sum 2 (Option.none : Option FieldType) fr0 lo0 0 0 [zr G x0] G v none w) (F : zF x G cX10_sum 2 RX10 (fr0 + 9) (lo0 + 264)) (hr : x.2.2.2.2.2.2.2.2.1.sig.returnType = (Option.none : Option FieldType)) (hk : x.2.2.2.2.2.2.2.2.1.locks = false) (w : zV)  : ∀ (n : Nat) (x0 : Nat) (t0 : zty G x0 1 10) (v : zV), fX10_sum_4 RC n x0 v = some w → zJ x G 2 (zQ x G none w 0 0) 0 0 4 [(0, zr G x0)] [] v := by
  intro n
  induction n with
  | zero => intro x0 t0 v h; exact absurd h (by intro q; cases q)
  | succ n ih =>
    intro x0 t0 v h
    rw [fX10_sum_4] at h
    dsimp only at h
    refine z_aload_n F dX10_sum_4 rfl 0 rfl ?_
    refine zg_10_5 F t0 wF_X10_150 dX10_sum_5 ?_
    refine z_if_ne F 58 dX10_sum_8 rfl (fun hc => ?_) (fun hc => ?_)
    · replace h := zif_f hc h
      cases h
      exact z_retv F hr hk dX10_sum_58
    · replace h := zif_t hc h
      refine z_aload_n F dX10_sum_11 rfl 0 rfl ?_
      refine z_bipush (y := (43 : Int32)) F dX10_sum_12 rfl ?_
      obtain ⟨r_2, v_1, hq14, h⟩ := zbind_ex h
      refine z_callVi F [.int (43 : Int32)] [] (kX10_takesSign x.2.1 G x0 t0 (43 : Int32) v r_2 v_1 hq14) mI_X10_takesSign (c := 10) rfl t0 wM_X10_262 mi_X10_takesSign sl_X10_takesSign dX10_sum_14 rfl ⟨by omega, by omega⟩ rfl (Nat.le_of_ble_eq_true rfl) ⟨Nat.zero_le _, Nat.zero_le _⟩ ?_
      refine z_if_eq F 24 dX10_sum_17 rfl (fun hc => ?_) (fun hc => ?_)
      · replace h := zif_t hc h
        refine z_aload_n F dX10_sum_24 rfl 0 rfl ?_
        refine z_bipush (y := (45 : Int32)) F dX10_sum_25 rfl ?_
        obtain ⟨r_4, v_3, hq27, h⟩ := zbind_ex h
        refine z_callVi F [.int (45 : Int32)] [] (kX10_takesSign x.2.1 G x0 t0 (45 : Int32) v_1 r_4 v_3 hq27) mI_X10_takesSign (c := 10) rfl t0 wM_X10_262 mi_X10_takesSign sl_X10_takesSign dX10_sum_27 rfl ⟨by omega, by omega⟩ rfl (Nat.le_of_ble_eq_true rfl) ⟨Nat.zero_le _, Nat.zero_le _⟩ ?_
        refine z_if_eq F 37 dX10_sum_30 rfl (fun hc => ?_) (fun hc => ?_)
        · replace h := zif_t hc h
          refine z_iconst (y := (-1 : Int32)) F dX10_sum_37 rfl ?_
          refine z_ls [(0, zr G x0)] [0] rfl ?_
          exact jX10_sum_38 x G fr0 lo0 RC hRC F hr hk w (fX10_sum_4 RC n) ih x0 t0 (-1 : Int32) v_3 h
        · replace h := zif_f hc h
          refine z_iconst (y := (3 : Int32)) F dX10_sum_33 rfl ?_
          refine z_goto F 38 dX10_sum_34 rfl ?_
          refine z_ls [(0, zr G x0)] [0] rfl ?_
          exact jX10_sum_38 x G fr0 lo0 RC hRC F hr hk w (fX10_sum_4 RC n) ih x0 t0 (3 : Int32) v_3 h
      · replace h := zif_f hc h
        refine z_iconst (y := (2 : Int32)) F dX10_sum_20 rfl ?_
        refine z_goto F 38 dX10_sum_21 rfl ?_
        refine z_ls [(0, zr G x0)] [0] rfl ?_
        exact jX10_sum_38 x G fr0 lo0 RC hRC F hr hk w (fX10_sum_4 RC n) ih x0 t0 (2 : Int32) v_1 h

def fX10_sum (RC : Nat → zV → Option zV) (x0 : Nat) (v : zV) : Option zV :=
  zbindv (fX10_product RC x0 v) fun v_1 =>
  fX10_sum_4 RC  zFU x0 v_1
set_option maxRecDepth 4000 in
theorem kX10_sum (l : Launch) (G : zG) (fr0 lo0 : Nat) (RC : Nat → zV → Option zV) (hRC : ∀ (l : Launch) (x0 : Nat) (t0 : zty G x0 1 10) (v : zV) (w : zV), RC x0 v = some w → zMet l yX10_sum cX10_sum 2 (Option.none : Option FieldType) fr0 lo0 0 0 [zr G x0] G v none w) (x0 : Nat) (t0 : zty G x0 1 10) (v : zV) (w : zV) (h : fX10_sum RC x0 v = some w) : zMet l yX10_sum cX10_sum 2 (Option.none : Option FieldType) (fr0 + 9) (lo0 + 264) 0 0 [zr G x0] G v none w := by
  refine zM_of (own := RX10) (by decide) rfl (Nat.le_of_ble_eq_true rfl) (fun x hl F hr hk hcs => ?_)
  subst hl
  refine z_ls [(0, zr G x0)] [0] rfl ?_
  unfold fX10_sum at h
  refine z_aload_n F dX10_sum_0 rfl 0 rfl ?_
  obtain ⟨v_1, hq1, h⟩ := zbindv_ex h
  refine z_callVv F [] [] (kX10_product x.2.1 G fr0 lo0 RC hRC x0 t0 v v_1 hq1) mI_X10_product (c := 10) rfl t0 wM_X10_259 mi_X10_product sl_X10_product dX10_sum_1 rfl ⟨by omega, by omega⟩ rfl (Nat.le_of_ble_eq_true rfl) ⟨Nat.zero_le _, Nat.zero_le _⟩ ?_
  refine z_ls [(0, zr G x0)] [0] rfl ?_
  exact jX10_sum_4 x G fr0 lo0 RC hRC F hr hk w   zFU x0 t0 v_1 h

def fX10_sumD : Nat → Nat → zV → Option zV
  | 0 => fun _ _ => none
  | d + 1 => fX10_sum (fX10_sumD d)
theorem kX10_sumD_all (d : Nat) : ∀ (l : Launch) (G : zG) (x0 : Nat) (t0 : zty G x0 1 10) (v : zV) (w : zV), fX10_sumD d x0 v = some w → zMet l yX10_sum cX10_sum 2 (Option.none : Option FieldType) (d * 9 + 1) (d * 264 + 1) 0 0 [zr G x0] G v none w := by
  induction d with
  | zero => intro l G x0 t0 v w h; exact absurd h (by intro q; cases q)
  | succ d ih =>
    intro l G x0 t0 v w h
    have e1 : (d + 1) * 9 + 1 = d * 9 + 1 + 9 := by omega
    have e2 : (d + 1) * 264 + 1 = d * 264 + 1 + 264 := by omega
    rw [e1, e2]
    exact kX10_sum l G _ _ (fX10_sumD d) (fun l => ih l G) x0 t0 v w h
theorem kX10_sumD (l : Launch) (G : zG) (d : Nat) (x0 : Nat) (t0 : zty G x0 1 10) (v : zV) (w : zV) (h : fX10_sumD d x0 v = some w) : zMet l yX10_sum cX10_sum 2 (Option.none : Option FieldType) (d * 9 + 1) (d * 264 + 1) 0 0 [zr G x0] G v none w := kX10_sumD_all d l G x0 t0 v w h

theorem dX10_law_0 : decode cX10_law 0 = .ok (.aload_n 0, 1) := by decide +kernel
theorem dX10_law_1 : decode cX10_law 1 = .ok (.iconst 0, 1) := by decide +kernel
theorem dX10_law_2 : decode cX10_law 2 = .ok (.putfield 134, 3) := by decide +kernel
theorem dX10_law_5 : decode cX10_law 5 = .ok (.aload_n 0, 1) := by decide +kernel
theorem dX10_law_6 : decode cX10_law 6 = .ok (.iload_n 1, 1) := by decide +kernel
theorem dX10_law_7 : decode cX10_law 7 = .ok (.iconst 0, 1) := by decide +kernel
theorem dX10_law_8 : decode cX10_law 8 = .ok (.aload_n 0, 1) := by decide +kernel
theorem dX10_law_9 : decode cX10_law 9 = .ok (.getfield 137, 3) := by decide +kernel
theorem dX10_law_12 : decode cX10_law 12 = .ok (.invokestatic 168, 3) := by decide +kernel
theorem dX10_law_15 : decode cX10_law 15 = .ok (.ifCond .eq 10, 3) := by decide +kernel
theorem dX10_law_18 : decode cX10_law 18 = .ok (.iload_n 1, 1) := by decide +kernel
theorem dX10_law_19 : decode cX10_law 19 = .ok (.sipush 150, 3) := by decide +kernel
theorem dX10_law_22 : decode cX10_law 22 = .ok (.if_icmp .le 7, 3) := by decide +kernel
theorem dX10_law_25 : decode cX10_law 25 = .ok (.iconst 1, 1) := by decide +kernel
theorem dX10_law_26 : decode cX10_law 26 = .ok (.goto 4, 3) := by decide +kernel
theorem dX10_law_29 : decode cX10_law 29 = .ok (.iconst 0, 1) := by decide +kernel
theorem dX10_law_30 : decode cX10_law 30 = .ok (.iconst 1, 1) := by decide +kernel
theorem dX10_law_31 : decode cX10_law 31 = .ok (.iconst 1, 1) := by decide +kernel
theorem dX10_law_32 : decode cX10_law 32 = .ok (.invokevirtual 220, 3) := by decide +kernel
theorem dX10_law_35 : decode cX10_law 35 = .ok (.ifCond .eq 5, 3) := by decide +kernel
theorem dX10_law_38 : decode cX10_law 38 = .ok (.iconst 0, 1) := by decide +kernel
theorem dX10_law_39 : decode cX10_law 39 = .ok (.ireturn, 1) := by decide +kernel
theorem dX10_law_40 : decode cX10_law 40 = .ok (.aload_n 0, 1) := by decide +kernel
theorem dX10_law_41 : decode cX10_law 41 = .ok (.iload_n 1, 1) := by decide +kernel
theorem dX10_law_42 : decode cX10_law 42 = .ok (.invokevirtual 224, 3) := by decide +kernel
theorem dX10_law_45 : decode cX10_law 45 = .ok (.aload_n 0, 1) := by decide +kernel
theorem dX10_law_46 : decode cX10_law 46 = .ok (.iconst 0, 1) := by decide +kernel
theorem dX10_law_47 : decode cX10_law 47 = .ok (.putfield 256, 3) := by decide +kernel
theorem dX10_law_50 : decode cX10_law 50 = .ok (.aload_n 0, 1) := by decide +kernel
theorem dX10_law_51 : decode cX10_law 51 = .ok (.invokevirtual 278, 3) := by decide +kernel
theorem dX10_law_54 : decode cX10_law 54 = .ok (.aload_n 0, 1) := by decide +kernel
theorem dX10_law_55 : decode cX10_law 55 = .ok (.invokevirtual 156, 3) := by decide +kernel
theorem dX10_law_58 : decode cX10_law 58 = .ok (.aload_n 0, 1) := by decide +kernel
theorem dX10_law_59 : decode cX10_law 59 = .ok (.getfield 150, 3) := by decide +kernel
theorem dX10_law_62 : decode cX10_law 62 = .ok (.ifCond .ne 23, 3) := by decide +kernel
theorem dX10_law_65 : decode cX10_law 65 = .ok (.aload_n 0, 1) := by decide +kernel
theorem dX10_law_66 : decode cX10_law 66 = .ok (.getfield 143, 3) := by decide +kernel
theorem dX10_law_69 : decode cX10_law 69 = .ok (.aload_n 0, 1) := by decide +kernel
theorem dX10_law_70 : decode cX10_law 70 = .ok (.getfield 140, 3) := by decide +kernel
theorem dX10_law_73 : decode cX10_law 73 = .ok (.if_icmp .ge 12, 3) := by decide +kernel
theorem dX10_law_76 : decode cX10_law 76 = .ok (.aload_n 0, 1) := by decide +kernel
theorem dX10_law_77 : decode cX10_law 77 = .ok (.iconst 1, 1) := by decide +kernel
theorem dX10_law_78 : decode cX10_law 78 = .ok (.aload_n 0, 1) := by decide +kernel
theorem dX10_law_79 : decode cX10_law 79 = .ok (.getfield 143, 3) := by decide +kernel
theorem dX10_law_82 : decode cX10_law 82 = .ok (.invokevirtual 163, 3) := by decide +kernel
theorem dX10_law_85 : decode cX10_law 85 = .ok (.aload_n 0, 1) := by decide +kernel
theorem dX10_law_86 : decode cX10_law 86 = .ok (.getfield 150, 3) := by decide +kernel
theorem dX10_law_89 : decode cX10_law 89 = .ok (.ifCond .eq 8, 3) := by decide +kernel
theorem dX10_law_92 : decode cX10_law 92 = .ok (.aload_n 0, 1) := by decide +kernel
theorem dX10_law_93 : decode cX10_law 93 = .ok (.invokevirtual 230, 3) := by decide +kernel
theorem dX10_law_96 : decode cX10_law 96 = .ok (.ireturn, 1) := by decide +kernel
theorem dX10_law_97 : decode cX10_law 97 = .ok (.aload_n 0, 1) := by decide +kernel
theorem dX10_law_98 : decode cX10_law 98 = .ok (.iconst (-1), 1) := by decide +kernel
theorem dX10_law_99 : decode cX10_law 99 = .ok (.putfield 9, 3) := by decide +kernel
theorem dX10_law_102 : decode cX10_law 102 = .ok (.aload_n 0, 1) := by decide +kernel
theorem dX10_law_103 : decode cX10_law 103 = .ok (.aload_n 0, 1) := by decide +kernel
theorem dX10_law_104 : decode cX10_law 104 = .ok (.getfield 256, 3) := by decide +kernel
theorem dX10_law_107 : decode cX10_law 107 = .ok (.putfield 241, 3) := by decide +kernel
theorem dX10_law_110 : decode cX10_law 110 = .ok (.aload_n 0, 1) := by decide +kernel
theorem dX10_law_111 : decode cX10_law 111 = .ok (.getfield 67, 3) := by decide +kernel
theorem dX10_law_114 : decode cX10_law 114 = .ok (.aload_n 0, 1) := by decide +kernel
theorem dX10_law_115 : decode cX10_law 115 = .ok (.getfield 64, 3) := by decide +kernel
theorem dX10_law_118 : decode cX10_law 118 = .ok (.aload_n 0, 1) := by decide +kernel
theorem dX10_law_119 : decode cX10_law 119 = .ok (.getfield 241, 3) := by decide +kernel
theorem dX10_law_122 : decode cX10_law 122 = .ok (.invokestatic 233, 3) := by decide +kernel
theorem dX10_law_125 : decode cX10_law 125 = .ok (.aload_n 0, 1) := by decide +kernel
theorem dX10_law_126 : decode cX10_law 126 = .ok (.invokevirtual 250, 3) := by decide +kernel
theorem dX10_law_129 : decode cX10_law 129 = .ok (.iconst 1, 1) := by decide +kernel
theorem dX10_law_130 : decode cX10_law 130 = .ok (.ireturn, 1) := by decide +kernel
def fX10_law_85  (x0 : Nat) (v : zV) : Option (Int32 × zV) :=
  if (v x0 5) = (0 : Int32) then
    zlet (zup v x0 3 (-1 : Int32)) fun v_1 =>
    zlet (zup v_1 x0 26 (v_1 x0 27)) fun v_2 =>
    zbindv (fX10_lays (zrf x0 29) (zrf x0 28) (v_2 x0 26) v_2) fun v_3 =>
    zbindv (fX10_settles x0 v_3) fun v_4 =>
    some ((1 : Int32), v_4)
  else
    zbind (fX10_ends x0 v) fun r_6 v_5 =>
    some (r_6, v_5)
set_option maxRecDepth 4000 in
theorem jX10_law_85 (x : zCx) (G : zG) (F : zF x G cX10_law 2 RX10 182 5302) (hr : x.2.2.2.2.2.2.2.2.1.sig.returnType = (Option.some FieldType.int)) (hk : x.2.2.2.2.2.2.2.2.1.locks = false) (r : Int32) (w : zV)  : ∀ (x0 : Nat) (t0 : zty G x0 1 10) (v : zV), fX10_law_85 x0 v = some (r, w) → zJ x G 2 (zQ x G (some (.int r)) w 0 0) 0 0 85 [(0, zr G x0)] [] v := by
  intro x0 t0 v h
  unfold fX10_law_85 at h
  refine z_aload_n F dX10_law_85 rfl 0 rfl ?_
  refine zg_10_5 F t0 wF_X10_150 dX10_law_86 ?_
  refine z_if_eq F 97 dX10_law_89 rfl (fun hc => ?_) (fun hc => ?_)
  · replace h := zif_t hc h
    refine z_aload_n F dX10_law_97 rfl 0 rfl ?_
    refine z_iconst (y := (-1 : Int32)) F dX10_law_98 rfl ?_
    refine zp_10_3 F t0 wF_X10_9 dX10_law_99 ?_
    obtain ⟨v_1, ev_1, h⟩ := zlet_ex h
    refine z_heap ev_1 ?_
    refine z_aload_n F dX10_law_102 rfl 0 rfl ?_
    refine z_aload_n F dX10_law_103 rfl 0 rfl ?_
    refine zg_10_27 F t0 wF_X10_256 dX10_law_104 ?_
    refine zp_10_26 F t0 wF_X10_241 dX10_law_107 ?_
    obtain ⟨v_2, ev_2, h⟩ := zlet_ex h
    refine z_heap ev_2 ?_
    refine z_aload_n F dX10_law_110 rfl 0 rfl ?_
    refine zg_10_29 F t0 wF_X10_67 dX10_law_111 ?_
    refine z_aload_n F dX10_law_114 rfl 0 rfl ?_
    refine zg_10_28 F t0 wF_X10_64 dX10_law_115 ?_
    refine z_aload_n F dX10_law_118 rfl 0 rfl ?_
    refine zg_10_26 F t0 wF_X10_241 dX10_law_119 ?_
    obtain ⟨v_3, hq122, h⟩ := zbindv_ex h
    refine z_callSv F [zr G (zrf x0 29), zr G (zrf x0 28), .int (v_2 x0 26)] [] (kX10_lays x.2.1 G (zrf x0 29) (zt_f tc_10_29 t0) (zrf x0 28) (zt_f tc_10_28 t0) (v_2 x0 26) v_2 v_3 hq122) mI_X10_lays wM_X10_233 ms_X10_lays dX10_law_122 rfl ⟨Nat.le_of_ble_eq_true rfl, Nat.le_of_ble_eq_true rfl⟩ rfl (Nat.le_of_ble_eq_true rfl) ⟨Nat.zero_le _, Nat.zero_le _⟩ ?_
    refine z_aload_n F dX10_law_125 rfl 0 rfl ?_
    obtain ⟨v_4, hq126, h⟩ := zbindv_ex h
    refine z_callVv F [] [] (kX10_settles x.2.1 G x0 t0 v_3 v_4 hq126) mI_X10_settles (c := 10) rfl t0 wM_X10_250 mi_X10_settles sl_X10_settles dX10_law_126 rfl ⟨Nat.le_of_ble_eq_true rfl, Nat.le_of_ble_eq_true rfl⟩ rfl (Nat.le_of_ble_eq_true rfl) ⟨Nat.zero_le _, Nat.zero_le _⟩ ?_
    refine z_iconst (y := (1 : Int32)) F dX10_law_129 rfl ?_
    cases h
    exact z_reti F hr hk dX10_law_130
  · replace h := zif_f hc h
    refine z_aload_n F dX10_law_92 rfl 0 rfl ?_
    obtain ⟨r_6, v_5, hq93, h⟩ := zbind_ex h
    refine z_callVi F [] [] (kX10_ends x.2.1 G x0 t0 v r_6 v_5 hq93) mI_X10_ends (c := 10) rfl t0 wM_X10_230 mi_X10_ends sl_X10_ends dX10_law_93 rfl ⟨Nat.le_of_ble_eq_true rfl, Nat.le_of_ble_eq_true rfl⟩ rfl (Nat.le_of_ble_eq_true rfl) ⟨Nat.zero_le _, Nat.zero_le _⟩ ?_
    cases h
    exact z_reti F hr hk dX10_law_96

def fX10_law_30  (x0 : Nat) (x1 : Int32) (s0 : Nat) (s1 : Int32) (v : zV) : Option (Int32 × zV) :=
  zbind (fX10_bad s0 s1 (1 : Int32) (1 : Int32) v) fun r_2 v_1 =>
  if r_2 = (0 : Int32) then
    zbindv (fX10_starts x0 x1 v_1) fun v_3 =>
    zlet (zup v_3 x0 27 (0 : Int32)) fun v_4 =>
    zbindv (fX10_sumD 20 x0 v_4) fun v_5 =>
    zbindv (fX10_blanks x0 v_5) fun v_6 =>
    if (v_6 x0 5) = (0 : Int32) then
      if (v_6 x0 2) ≤ (v_6 x0 4) then
        fX10_law_85  x0 v_6
      else
        zbindv (fX10_wrong x0 (1 : Int32) (v_6 x0 4) v_6) fun v_7 =>
        fX10_law_85  x0 v_7
    else
      fX10_law_85  x0 v_6
  else
    some ((0 : Int32), v_1)
set_option maxRecDepth 4000 in
theorem jX10_law_30 (x : zCx) (G : zG) (F : zF x G cX10_law 2 RX10 182 5302) (hr : x.2.2.2.2.2.2.2.2.1.sig.returnType = (Option.some FieldType.int)) (hk : x.2.2.2.2.2.2.2.2.1.locks = false) (r : Int32) (w : zV)  : ∀ (x0 : Nat) (t0 : zty G x0 1 10) (x1 : Int32) (s0 : Nat) (ts0 : zty G s0 1 10) (s1 : Int32) (v : zV), fX10_law_30 x0 x1 s0 s1 v = some (r, w) → zJ x G 2 (zQ x G (some (.int r)) w 0 0) 0 0 30 [(0, zr G x0), (1, .int x1)] [.int s1, zr G s0] v := by
  intro x0 t0 x1 s0 ts0 s1 v h
  unfold fX10_law_30 at h
  refine z_iconst (y := (1 : Int32)) F dX10_law_30 rfl ?_
  refine z_iconst (y := (1 : Int32)) F dX10_law_31 rfl ?_
  obtain ⟨r_2, v_1, hq32, h⟩ := zbind_ex h
  refine z_callVi F [.int s1, .int (1 : Int32), .int (1 : Int32)] [] (kX10_bad x.2.1 G s0 ts0 s1 (1 : Int32) (1 : Int32) v r_2 v_1 hq32) mI_X10_bad (c := 10) rfl ts0 wM_X10_220 mi_X10_bad sl_X10_bad dX10_law_32 rfl ⟨Nat.le_of_ble_eq_true rfl, Nat.le_of_ble_eq_true rfl⟩ rfl (Nat.le_of_ble_eq_true rfl) ⟨Nat.zero_le _, Nat.zero_le _⟩ ?_
  refine z_if_eq F 40 dX10_law_35 rfl (fun hc => ?_) (fun hc => ?_)
  · replace h := zif_t hc h
    refine z_aload_n F dX10_law_40 rfl 0 rfl ?_
    refine z_iload_n F dX10_law_41 rfl 1 rfl ?_
    obtain ⟨v_3, hq42, h⟩ := zbindv_ex h
    refine z_callVv F [.int x1] [] (kX10_starts x.2.1 G x0 t0 x1 v_1 v_3 hq42) mI_X10_starts (c := 10) rfl t0 wM_X10_224 mi_X10_starts sl_X10_starts dX10_law_42 rfl ⟨Nat.le_of_ble_eq_true rfl, Nat.le_of_ble_eq_true rfl⟩ rfl (Nat.le_of_ble_eq_true rfl) ⟨Nat.zero_le _, Nat.zero_le _⟩ ?_
    refine z_aload_n F dX10_law_45 rfl 0 rfl ?_
    refine z_iconst (y := (0 : Int32)) F dX10_law_46 rfl ?_
    refine zp_10_27 F t0 wF_X10_256 dX10_law_47 ?_
    obtain ⟨v_4, ev_4, h⟩ := zlet_ex h
    refine z_heap ev_4 ?_
    refine z_aload_n F dX10_law_50 rfl 0 rfl ?_
    obtain ⟨v_5, hq51, h⟩ := zbindv_ex h
    refine z_callVv F [] [] (kX10_sumD x.2.1 G 20 x0 t0 v_4 v_5 hq51) mI_X10_sum (c := 10) rfl t0 wM_X10_278 mi_X10_sum sl_X10_sum dX10_law_51 rfl ⟨Nat.le_of_ble_eq_true rfl, Nat.le_of_ble_eq_true rfl⟩ rfl (Nat.le_of_ble_eq_true rfl) ⟨Nat.zero_le _, Nat.zero_le _⟩ ?_
    refine z_aload_n F dX10_law_54 rfl 0 rfl ?_
    obtain ⟨v_6, hq55, h⟩ := zbindv_ex h
    refine z_callVv F [] [] (kX10_blanks x.2.1 G x0 t0 v_5 v_6 hq55) mI_X10_blanks (c := 10) rfl t0 wM_X10_156 mi_X10_blanks sl_X10_blanks dX10_law_55 rfl ⟨Nat.le_of_ble_eq_true rfl, Nat.le_of_ble_eq_true rfl⟩ rfl (Nat.le_of_ble_eq_true rfl) ⟨Nat.zero_le _, Nat.zero_le _⟩ ?_
    refine z_aload_n F dX10_law_58 rfl 0 rfl ?_
    refine zg_10_5 F t0 wF_X10_150 dX10_law_59 ?_
    refine z_if_ne F 85 dX10_law_62 rfl (fun hc => ?_) (fun hc => ?_)
    · replace h := zif_f hc h
      refine z_ls [(0, zr G x0)] [0] rfl ?_
      exact jX10_law_85 x G F hr hk r w   x0 t0 v_6 h
    · replace h := zif_t hc h
      refine z_aload_n F dX10_law_65 rfl 0 rfl ?_
      refine zg_10_4 F t0 wF_X10_143 dX10_law_66 ?_
      refine z_aload_n F dX10_law_69 rfl 0 rfl ?_
      refine zg_10_2 F t0 wF_X10_140 dX10_law_70 ?_
      refine z_icmp_ge F 85 dX10_law_73 rfl (fun hc => ?_) (fun hc => ?_)
      · replace h := zif_t hc h
        refine z_ls [(0, zr G x0)] [0] rfl ?_
        exact jX10_law_85 x G F hr hk r w   x0 t0 v_6 h
      · replace h := zif_f hc h
        refine z_aload_n F dX10_law_76 rfl 0 rfl ?_
        refine z_iconst (y := (1 : Int32)) F dX10_law_77 rfl ?_
        refine z_aload_n F dX10_law_78 rfl 0 rfl ?_
        refine zg_10_4 F t0 wF_X10_143 dX10_law_79 ?_
        obtain ⟨v_7, hq82, h⟩ := zbindv_ex h
        refine z_callVv F [.int (1 : Int32), .int (v_6 x0 4)] [] (kX10_wrong x.2.1 G x0 t0 (1 : Int32) (v_6 x0 4) v_6 v_7 hq82) mI_X10_wrong (c := 10) rfl t0 wM_X10_163 mi_X10_wrong sl_X10_wrong dX10_law_82 rfl ⟨Nat.le_of_ble_eq_true rfl, Nat.le_of_ble_eq_true rfl⟩ rfl (Nat.le_of_ble_eq_true rfl) ⟨Nat.zero_le _, Nat.zero_le _⟩ ?_
        refine z_ls [(0, zr G x0)] [0] rfl ?_
        exact jX10_law_85 x G F hr hk r w   x0 t0 v_7 h
  · replace h := zif_f hc h
    refine z_iconst (y := (0 : Int32)) F dX10_law_38 rfl ?_
    cases h
    exact z_reti F hr hk dX10_law_39

def fX10_law (x0 : Nat) (x1 : Int32) (v : zV) : Option (Int32 × zV) :=
  zlet (zup v x0 0 (0 : Int32)) fun v_1 =>
  zbind (fX10_in x1 (0 : Int32) (v_1 x0 1) v_1) fun r_3 v_2 =>
  if r_3 = (0 : Int32) then
    fX10_law_30  x0 x1 x0 (1 : Int32) v_2
  else
    if x1 ≤ (150 : Int32) then
      fX10_law_30  x0 x1 x0 (0 : Int32) v_2
    else
      fX10_law_30  x0 x1 x0 (1 : Int32) v_2
set_option maxRecDepth 4000 in
theorem kX10_law (l : Launch) (G : zG) (x0 : Nat) (t0 : zty G x0 1 10) (x1 : Int32) (v : zV) (r : Int32) (w : zV) (h : fX10_law x0 x1 v = some (r, w)) : zMet l yX10_law cX10_law 2 (Option.some FieldType.int) 182 5302 0 0 [zr G x0, .int x1] G v (some (.int r)) w := by
  refine zM_of (own := RX10) (by decide) rfl (Nat.le_of_ble_eq_true rfl) (fun x hl F hr hk hcs => ?_)
  subst hl
  refine z_ls [(0, zr G x0), (1, .int x1)] [0, 1] rfl ?_
  unfold fX10_law at h
  refine z_aload_n F dX10_law_0 rfl 0 rfl ?_
  refine z_iconst (y := (0 : Int32)) F dX10_law_1 rfl ?_
  refine zp_10_0 F t0 wF_X10_134 dX10_law_2 ?_
  obtain ⟨v_1, ev_1, h⟩ := zlet_ex h
  refine z_heap ev_1 ?_
  refine z_aload_n F dX10_law_5 rfl 0 rfl ?_
  refine z_iload_n F dX10_law_6 rfl 1 rfl ?_
  refine z_iconst (y := (0 : Int32)) F dX10_law_7 rfl ?_
  refine z_aload_n F dX10_law_8 rfl 0 rfl ?_
  refine zg_10_1 F t0 wF_X10_137 dX10_law_9 ?_
  obtain ⟨r_3, v_2, hq12, h⟩ := zbind_ex h
  refine z_callSi F [.int x1, .int (0 : Int32), .int (v_1 x0 1)] [zr G x0] (kX10_in x.2.1 G x1 (0 : Int32) (v_1 x0 1) v_1 r_3 v_2 hq12) mI_X10_in wM_X10_168 ms_X10_in dX10_law_12 rfl ⟨Nat.le_of_ble_eq_true rfl, Nat.le_of_ble_eq_true rfl⟩ rfl (Nat.le_of_ble_eq_true rfl) ⟨Nat.zero_le _, Nat.zero_le _⟩ ?_
  refine z_if_eq F 25 dX10_law_15 rfl (fun hc => ?_) (fun hc => ?_)
  · replace h := zif_t hc h
    refine z_iconst (y := (1 : Int32)) F dX10_law_25 rfl ?_
    refine z_goto F 30 dX10_law_26 rfl ?_
    refine z_ls [(0, zr G x0), (1, .int x1)] [0, 1] rfl ?_
    exact jX10_law_30 x G F hr hk r w   x0 t0 x1 x0 t0 (1 : Int32) v_2 h
  · replace h := zif_f hc h
    refine z_iload_n F dX10_law_18 rfl 1 rfl ?_
    refine z_sipush (y := (150 : Int32)) F dX10_law_19 rfl ?_
    refine z_icmp_le F 29 dX10_law_22 rfl (fun hc => ?_) (fun hc => ?_)
    · replace h := zif_t hc h
      refine z_iconst (y := (0 : Int32)) F dX10_law_29 rfl ?_
      refine z_ls [(0, zr G x0), (1, .int x1)] [0, 1] rfl ?_
      exact jX10_law_30 x G F hr hk r w   x0 t0 x1 x0 t0 (0 : Int32) v_2 h
    · replace h := zif_f hc h
      refine z_iconst (y := (1 : Int32)) F dX10_law_25 rfl ?_
      refine z_goto F 30 dX10_law_26 rfl ?_
      refine z_ls [(0, zr G x0), (1, .int x1)] [0, 1] rfl ?_
      exact jX10_law_30 x G F hr hk r w   x0 t0 x1 x0 t0 (1 : Int32) v_2 h

theorem dX10_by_0 : decode cX10_by 0 = .ok (.iload_n 0, 1) := by decide +kernel
theorem dX10_by_1 : decode cX10_by 1 = .ok (.tableswitch 75 2 6 #[35, 39, 43, 47, 69], 35) := by decide +kernel
theorem dX10_by_36 : decode cX10_by 36 = .ok (.iload_n 1, 1) := by decide +kernel
theorem dX10_by_37 : decode cX10_by 37 = .ok (.iload_n 2, 1) := by decide +kernel
theorem dX10_by_38 : decode cX10_by 38 = .ok (.iadd, 1) := by decide +kernel
theorem dX10_by_39 : decode cX10_by 39 = .ok (.ireturn, 1) := by decide +kernel
theorem dX10_by_40 : decode cX10_by 40 = .ok (.iload_n 1, 1) := by decide +kernel
theorem dX10_by_41 : decode cX10_by 41 = .ok (.iload_n 2, 1) := by decide +kernel
theorem dX10_by_42 : decode cX10_by 42 = .ok (.isub, 1) := by decide +kernel
theorem dX10_by_43 : decode cX10_by 43 = .ok (.ireturn, 1) := by decide +kernel
theorem dX10_by_44 : decode cX10_by 44 = .ok (.iload_n 1, 1) := by decide +kernel
theorem dX10_by_45 : decode cX10_by 45 = .ok (.iload_n 2, 1) := by decide +kernel
theorem dX10_by_46 : decode cX10_by 46 = .ok (.imul, 1) := by decide +kernel
theorem dX10_by_47 : decode cX10_by 47 = .ok (.ireturn, 1) := by decide +kernel
theorem dX10_by_48 : decode cX10_by 48 = .ok (.iload_n 2, 1) := by decide +kernel
theorem dX10_by_49 : decode cX10_by 49 = .ok (.ifCond .ne 7, 3) := by decide +kernel
theorem dX10_by_52 : decode cX10_by 52 = .ok (.iconst 0, 1) := by decide +kernel
theorem dX10_by_53 : decode cX10_by 53 = .ok (.goto 16, 3) := by decide +kernel
theorem dX10_by_56 : decode cX10_by 56 = .ok (.iload_n 2, 1) := by decide +kernel
theorem dX10_by_57 : decode cX10_by 57 = .ok (.iconst (-1), 1) := by decide +kernel
theorem dX10_by_58 : decode cX10_by 58 = .ok (.if_icmp .ne 8, 3) := by decide +kernel
theorem dX10_by_61 : decode cX10_by 61 = .ok (.iload_n 1, 1) := by decide +kernel
theorem dX10_by_62 : decode cX10_by 62 = .ok (.ineg, 1) := by decide +kernel
theorem dX10_by_63 : decode cX10_by 63 = .ok (.goto 6, 3) := by decide +kernel
theorem dX10_by_66 : decode cX10_by 66 = .ok (.iload_n 1, 1) := by decide +kernel
theorem dX10_by_67 : decode cX10_by 67 = .ok (.iload_n 2, 1) := by decide +kernel
theorem dX10_by_68 : decode cX10_by 68 = .ok (.idiv, 1) := by decide +kernel
theorem dX10_by_69 : decode cX10_by 69 = .ok (.ireturn, 1) := by decide +kernel
theorem dX10_by_70 : decode cX10_by 70 = .ok (.iload_n 1, 1) := by decide +kernel
theorem dX10_by_71 : decode cX10_by 71 = .ok (.iload_n 2, 1) := by decide +kernel
theorem dX10_by_72 : decode cX10_by 72 = .ok (.invokestatic 284, 3) := by decide +kernel
theorem dX10_by_75 : decode cX10_by 75 = .ok (.ireturn, 1) := by decide +kernel
theorem dX10_by_76 : decode cX10_by 76 = .ok (.iload_n 1, 1) := by decide +kernel
theorem dX10_by_77 : decode cX10_by 77 = .ok (.iload_n 2, 1) := by decide +kernel
theorem dX10_by_78 : decode cX10_by 78 = .ok (.invokestatic 287, 3) := by decide +kernel
theorem dX10_by_81 : decode cX10_by 81 = .ok (.ireturn, 1) := by decide +kernel
def fX10_by (x0 : Int32) (x1 : Int32) (x2 : Int32) (v : zV) : Option (Int32 × zV) :=
  if x0 = (2 : Int32) then
    some (x1 + x2, v)
  else
    if x0 = (3 : Int32) then
      some (x1 - x2, v)
    else
      if x0 = (4 : Int32) then
        some (x1 * x2, v)
      else
        if x0 = (5 : Int32) then
          if x2 = (0 : Int32) then
            some ((0 : Int32), v)
          else
            if x2 = (-1 : Int32) then
              some (-x1, v)
            else
              znz x2 <|
              some (x1 / x2, v)
        else
          if x0 = (6 : Int32) then
            zbind (fX10_less x1 x2 v) fun r_2 v_1 =>
            some (r_2, v_1)
          else
            zbind (fX10_more x1 x2 v) fun r_4 v_3 =>
            some (r_4, v_3)
set_option maxRecDepth 4000 in
theorem kX10_by (l : Launch) (G : zG) (x0 : Int32) (x1 : Int32) (x2 : Int32) (v : zV) (r : Int32) (w : zV) (h : fX10_by x0 x1 x2 v = some (r, w)) : zMet l yX10_by cX10_by 3 (Option.some FieldType.int) 2 101 0 0 [.int x0, .int x1, .int x2] G v (some (.int r)) w := by
  refine zM_of (own := RX10) (by decide) rfl (Nat.le_of_ble_eq_true rfl) (fun x hl F hr hk hcs => ?_)
  subst hl
  refine z_ls [(0, .int x0), (1, .int x1), (2, .int x2)] [0, 1, 2] rfl ?_
  unfold fX10_by at h
  refine z_iload_n F dX10_by_0 rfl 0 rfl ?_
  by_cases hc : x0 = (2 : Int32)
  · replace h := zif_t hc h
    refine z_swIn F 36 hc dX10_by_1 (by decide) (by decide) rfl rfl ?_
    refine z_iload_n F dX10_by_36 rfl 1 rfl ?_
    refine z_iload_n F dX10_by_37 rfl 2 rfl ?_
    refine z_iadd F dX10_by_38 ?_
    cases h
    exact z_reti F hr hk dX10_by_39
  · replace h := zif_f hc h
    have hn2 := zsw_ne hc
    by_cases hc : x0 = (3 : Int32)
    · replace h := zif_t hc h
      refine z_swIn F 40 hc dX10_by_1 (by decide) (by decide) rfl rfl ?_
      refine z_iload_n F dX10_by_40 rfl 1 rfl ?_
      refine z_iload_n F dX10_by_41 rfl 2 rfl ?_
      refine z_isub F dX10_by_42 ?_
      cases h
      exact z_reti F hr hk dX10_by_43
    · replace h := zif_f hc h
      have hn3 := zsw_ne hc
      by_cases hc : x0 = (4 : Int32)
      · replace h := zif_t hc h
        refine z_swIn F 44 hc dX10_by_1 (by decide) (by decide) rfl rfl ?_
        refine z_iload_n F dX10_by_44 rfl 1 rfl ?_
        refine z_iload_n F dX10_by_45 rfl 2 rfl ?_
        refine z_imul F dX10_by_46 ?_
        cases h
        exact z_reti F hr hk dX10_by_47
      · replace h := zif_f hc h
        have hn4 := zsw_ne hc
        by_cases hc : x0 = (5 : Int32)
        · replace h := zif_t hc h
          refine z_swIn F 48 hc dX10_by_1 (by decide) (by decide) rfl rfl ?_
          refine z_iload_n F dX10_by_48 rfl 2 rfl ?_
          refine z_if_ne F 56 dX10_by_49 rfl (fun hc => ?_) (fun hc => ?_)
          · replace h := zif_f hc h
            refine z_iload_n F dX10_by_56 rfl 2 rfl ?_
            refine z_iconst (y := (-1 : Int32)) F dX10_by_57 rfl ?_
            refine z_icmp_ne F 66 dX10_by_58 rfl (fun hc => ?_) (fun hc => ?_)
            · replace h := zif_f hc h
              refine z_iload_n F dX10_by_66 rfl 1 rfl ?_
              refine z_iload_n F dX10_by_67 rfl 2 rfl ?_
              obtain ⟨hz68, h⟩ := znz_ex h
              refine z_idiv F dX10_by_68 hz68 ?_
              cases h
              exact z_reti F hr hk dX10_by_69
            · replace h := zif_t hc h
              refine z_iload_n F dX10_by_61 rfl 1 rfl ?_
              refine z_ineg F dX10_by_62 ?_
              refine z_goto F 69 dX10_by_63 rfl ?_
              cases h
              exact z_reti F hr hk dX10_by_69
          · replace h := zif_t hc h
            refine z_iconst (y := (0 : Int32)) F dX10_by_52 rfl ?_
            refine z_goto F 69 dX10_by_53 rfl ?_
            cases h
            exact z_reti F hr hk dX10_by_69
        · replace h := zif_f hc h
          have hn5 := zsw_ne hc
          by_cases hc : x0 = (6 : Int32)
          · replace h := zif_t hc h
            refine z_swIn F 70 hc dX10_by_1 (by decide) (by decide) rfl rfl ?_
            refine z_iload_n F dX10_by_70 rfl 1 rfl ?_
            refine z_iload_n F dX10_by_71 rfl 2 rfl ?_
            obtain ⟨r_2, v_1, hq72, h⟩ := zbind_ex h
            refine z_callSi F [.int x1, .int x2] [] (kX10_less x.2.1 G x1 x2 v r_2 v_1 hq72) mI_X10_less wM_X10_284 ms_X10_less dX10_by_72 rfl ⟨Nat.le_of_ble_eq_true rfl, Nat.le_of_ble_eq_true rfl⟩ rfl (Nat.le_of_ble_eq_true rfl) ⟨Nat.zero_le _, Nat.zero_le _⟩ ?_
            cases h
            exact z_reti F hr hk dX10_by_75
          · replace h := zif_f hc h
            have hn6 := zsw_ne hc
            refine z_tableOut F 76 dX10_by_1 (by have q0 : ((2 : Int32) : Int32).toInt = 2 := rfl; have q1 : ((3 : Int32) : Int32).toInt = 3 := rfl; have q2 : ((4 : Int32) : Int32).toInt = 4 := rfl; have q3 : ((5 : Int32) : Int32).toInt = 5 := rfl; have q4 : ((6 : Int32) : Int32).toInt = 6 := rfl; omega) rfl ?_
            refine z_iload_n F dX10_by_76 rfl 1 rfl ?_
            refine z_iload_n F dX10_by_77 rfl 2 rfl ?_
            obtain ⟨r_4, v_3, hq78, h⟩ := zbind_ex h
            refine z_callSi F [.int x1, .int x2] [] (kX10_more x.2.1 G x1 x2 v r_4 v_3 hq78) mI_X10_more wM_X10_287 ms_X10_more dX10_by_78 rfl ⟨Nat.le_of_ble_eq_true rfl, Nat.le_of_ble_eq_true rfl⟩ rfl (Nat.le_of_ble_eq_true rfl) ⟨Nat.zero_le _, Nat.zero_le _⟩ ?_
            cases h
            exact z_reti F hr hk dX10_by_81

theorem dX10_byLaw_0 : decode cX10_byLaw 0 = .ok (.aload_n 0, 1) := by decide +kernel
theorem dX10_byLaw_1 : decode cX10_byLaw 1 = .ok (.getfield 241, 3) := by decide +kernel
theorem dX10_byLaw_4 : decode cX10_byLaw 4 = .ok (.ifCond .ne 20, 3) := by decide +kernel
theorem dX10_byLaw_7 : decode cX10_byLaw 7 = .ok (.aload_n 0, 1) := by decide +kernel
theorem dX10_byLaw_8 : decode cX10_byLaw 8 = .ok (.getfield 82, 3) := by decide +kernel
theorem dX10_byLaw_11 : decode cX10_byLaw 11 = .ok (.iconst 0, 1) := by decide +kernel
theorem dX10_byLaw_12 : decode cX10_byLaw 12 = .ok (.iaload, 1) := by decide +kernel
theorem dX10_byLaw_13 : decode cX10_byLaw 13 = .ok (.bipush 10, 2) := by decide +kernel
theorem dX10_byLaw_15 : decode cX10_byLaw 15 = .ok (.imul, 1) := by decide +kernel
theorem dX10_byLaw_16 : decode cX10_byLaw 16 = .ok (.aload_n 0, 1) := by decide +kernel
theorem dX10_byLaw_17 : decode cX10_byLaw 17 = .ok (.getfield 82, 3) := by decide +kernel
theorem dX10_byLaw_20 : decode cX10_byLaw 20 = .ok (.iconst 2, 1) := by decide +kernel
theorem dX10_byLaw_21 : decode cX10_byLaw 21 = .ok (.iaload, 1) := by decide +kernel
theorem dX10_byLaw_22 : decode cX10_byLaw 22 = .ok (.iadd, 1) := by decide +kernel
theorem dX10_byLaw_23 : decode cX10_byLaw 23 = .ok (.ireturn, 1) := by decide +kernel
theorem dX10_byLaw_24 : decode cX10_byLaw 24 = .ok (.iconst 0, 1) := by decide +kernel
theorem dX10_byLaw_25 : decode cX10_byLaw 25 = .ok (.istore_n 1, 1) := by decide +kernel
theorem dX10_byLaw_26 : decode cX10_byLaw 26 = .ok (.iconst 0, 1) := by decide +kernel
theorem dX10_byLaw_27 : decode cX10_byLaw 27 = .ok (.istore_n 2, 1) := by decide +kernel
theorem dX10_byLaw_28 : decode cX10_byLaw 28 = .ok (.iload_n 2, 1) := by decide +kernel
theorem dX10_byLaw_29 : decode cX10_byLaw 29 = .ok (.aload_n 0, 1) := by decide +kernel
theorem dX10_byLaw_30 : decode cX10_byLaw 30 = .ok (.getfield 241, 3) := by decide +kernel
theorem dX10_byLaw_33 : decode cX10_byLaw 33 = .ok (.if_icmp .ge 104, 3) := by decide +kernel
theorem dX10_byLaw_36 : decode cX10_byLaw 36 = .ok (.aload_n 0, 1) := by decide +kernel
theorem dX10_byLaw_37 : decode cX10_byLaw 37 = .ok (.getfield 64, 3) := by decide +kernel
theorem dX10_byLaw_40 : decode cX10_byLaw 40 = .ok (.iload_n 2, 1) := by decide +kernel
theorem dX10_byLaw_41 : decode cX10_byLaw 41 = .ok (.aaload, 1) := by decide +kernel
theorem dX10_byLaw_42 : decode cX10_byLaw 42 = .ok (.iconst 0, 1) := by decide +kernel
theorem dX10_byLaw_43 : decode cX10_byLaw 43 = .ok (.iaload, 1) := by decide +kernel
theorem dX10_byLaw_44 : decode cX10_byLaw 44 = .ok (.iconst 2, 1) := by decide +kernel
theorem dX10_byLaw_45 : decode cX10_byLaw 45 = .ok (.if_icmp .ge 50, 3) := by decide +kernel
theorem dX10_byLaw_48 : decode cX10_byLaw 48 = .ok (.aload_n 0, 1) := by decide +kernel
theorem dX10_byLaw_49 : decode cX10_byLaw 49 = .ok (.getfield 79, 3) := by decide +kernel
theorem dX10_byLaw_52 : decode cX10_byLaw 52 = .ok (.iload_n 1, 1) := by decide +kernel
theorem dX10_byLaw_53 : decode cX10_byLaw 53 = .ok (.aload_n 0, 1) := by decide +kernel
theorem dX10_byLaw_54 : decode cX10_byLaw 54 = .ok (.getfield 64, 3) := by decide +kernel
theorem dX10_byLaw_57 : decode cX10_byLaw 57 = .ok (.iload_n 2, 1) := by decide +kernel
theorem dX10_byLaw_58 : decode cX10_byLaw 58 = .ok (.aaload, 1) := by decide +kernel
theorem dX10_byLaw_59 : decode cX10_byLaw 59 = .ok (.iconst 0, 1) := by decide +kernel
theorem dX10_byLaw_60 : decode cX10_byLaw 60 = .ok (.iaload, 1) := by decide +kernel
theorem dX10_byLaw_61 : decode cX10_byLaw 61 = .ok (.ifCond .ne 14, 3) := by decide +kernel
theorem dX10_byLaw_64 : decode cX10_byLaw 64 = .ok (.aload_n 0, 1) := by decide +kernel
theorem dX10_byLaw_65 : decode cX10_byLaw 65 = .ok (.getfield 64, 3) := by decide +kernel
theorem dX10_byLaw_68 : decode cX10_byLaw 68 = .ok (.iload_n 2, 1) := by decide +kernel
theorem dX10_byLaw_69 : decode cX10_byLaw 69 = .ok (.aaload, 1) := by decide +kernel
theorem dX10_byLaw_70 : decode cX10_byLaw 70 = .ok (.iconst 1, 1) := by decide +kernel
theorem dX10_byLaw_71 : decode cX10_byLaw 71 = .ok (.iaload, 1) := by decide +kernel
theorem dX10_byLaw_72 : decode cX10_byLaw 72 = .ok (.goto 16, 3) := by decide +kernel
theorem dX10_byLaw_75 : decode cX10_byLaw 75 = .ok (.aload_n 0, 1) := by decide +kernel
theorem dX10_byLaw_76 : decode cX10_byLaw 76 = .ok (.getfield 82, 3) := by decide +kernel
theorem dX10_byLaw_79 : decode cX10_byLaw 79 = .ok (.aload_n 0, 1) := by decide +kernel
theorem dX10_byLaw_80 : decode cX10_byLaw 80 = .ok (.getfield 64, 3) := by decide +kernel
theorem dX10_byLaw_83 : decode cX10_byLaw 83 = .ok (.iload_n 2, 1) := by decide +kernel
theorem dX10_byLaw_84 : decode cX10_byLaw 84 = .ok (.aaload, 1) := by decide +kernel
theorem dX10_byLaw_85 : decode cX10_byLaw 85 = .ok (.iconst 1, 1) := by decide +kernel
theorem dX10_byLaw_86 : decode cX10_byLaw 86 = .ok (.iaload, 1) := by decide +kernel
theorem dX10_byLaw_87 : decode cX10_byLaw 87 = .ok (.iaload, 1) := by decide +kernel
theorem dX10_byLaw_88 : decode cX10_byLaw 88 = .ok (.iastore, 1) := by decide +kernel
theorem dX10_byLaw_89 : decode cX10_byLaw 89 = .ok (.iinc 1 1, 3) := by decide +kernel
theorem dX10_byLaw_92 : decode cX10_byLaw 92 = .ok (.goto 39, 3) := by decide +kernel
theorem dX10_byLaw_95 : decode cX10_byLaw 95 = .ok (.iinc 1 (-1), 3) := by decide +kernel
theorem dX10_byLaw_98 : decode cX10_byLaw 98 = .ok (.aload_n 0, 1) := by decide +kernel
theorem dX10_byLaw_99 : decode cX10_byLaw 99 = .ok (.getfield 79, 3) := by decide +kernel
theorem dX10_byLaw_102 : decode cX10_byLaw 102 = .ok (.iload_n 1, 1) := by decide +kernel
theorem dX10_byLaw_103 : decode cX10_byLaw 103 = .ok (.iconst 1, 1) := by decide +kernel
theorem dX10_byLaw_104 : decode cX10_byLaw 104 = .ok (.isub, 1) := by decide +kernel
theorem dX10_byLaw_105 : decode cX10_byLaw 105 = .ok (.aload_n 0, 1) := by decide +kernel
theorem dX10_byLaw_106 : decode cX10_byLaw 106 = .ok (.getfield 64, 3) := by decide +kernel
theorem dX10_byLaw_109 : decode cX10_byLaw 109 = .ok (.iload_n 2, 1) := by decide +kernel
theorem dX10_byLaw_110 : decode cX10_byLaw 110 = .ok (.aaload, 1) := by decide +kernel
theorem dX10_byLaw_111 : decode cX10_byLaw 111 = .ok (.iconst 0, 1) := by decide +kernel
theorem dX10_byLaw_112 : decode cX10_byLaw 112 = .ok (.iaload, 1) := by decide +kernel
theorem dX10_byLaw_113 : decode cX10_byLaw 113 = .ok (.aload_n 0, 1) := by decide +kernel
theorem dX10_byLaw_114 : decode cX10_byLaw 114 = .ok (.getfield 79, 3) := by decide +kernel
theorem dX10_byLaw_117 : decode cX10_byLaw 117 = .ok (.iload_n 1, 1) := by decide +kernel
theorem dX10_byLaw_118 : decode cX10_byLaw 118 = .ok (.iconst 1, 1) := by decide +kernel
theorem dX10_byLaw_119 : decode cX10_byLaw 119 = .ok (.isub, 1) := by decide +kernel
theorem dX10_byLaw_120 : decode cX10_byLaw 120 = .ok (.iaload, 1) := by decide +kernel
theorem dX10_byLaw_121 : decode cX10_byLaw 121 = .ok (.aload_n 0, 1) := by decide +kernel
theorem dX10_byLaw_122 : decode cX10_byLaw 122 = .ok (.getfield 79, 3) := by decide +kernel
theorem dX10_byLaw_125 : decode cX10_byLaw 125 = .ok (.iload_n 1, 1) := by decide +kernel
theorem dX10_byLaw_126 : decode cX10_byLaw 126 = .ok (.iaload, 1) := by decide +kernel
theorem dX10_byLaw_127 : decode cX10_byLaw 127 = .ok (.invokestatic 290, 3) := by decide +kernel
theorem dX10_byLaw_130 : decode cX10_byLaw 130 = .ok (.iastore, 1) := by decide +kernel
theorem dX10_byLaw_131 : decode cX10_byLaw 131 = .ok (.iinc 2 1, 3) := by decide +kernel
theorem dX10_byLaw_134 : decode cX10_byLaw 134 = .ok (.goto (-106), 3) := by decide +kernel
theorem dX10_byLaw_137 : decode cX10_byLaw 137 = .ok (.aload_n 0, 1) := by decide +kernel
theorem dX10_byLaw_138 : decode cX10_byLaw 138 = .ok (.getfield 79, 3) := by decide +kernel
theorem dX10_byLaw_141 : decode cX10_byLaw 141 = .ok (.iconst 0, 1) := by decide +kernel
theorem dX10_byLaw_142 : decode cX10_byLaw 142 = .ok (.iaload, 1) := by decide +kernel
theorem dX10_byLaw_143 : decode cX10_byLaw 143 = .ok (.ireturn, 1) := by decide +kernel
def fX10_byLaw_28  : Nat → Nat → Int32 → Int32 → zV → Option (Int32 × zV)
  | 0 => fun _ _ _ _ => none
  | n + 1 => fun x0 x1 x2 v =>
    if (v x0 26) ≤ x2 then
      zix (0 : Int32) (zlen (zrf x0 33)) <|
      some (v (zrf x0 33) ((0 : Int32)).toNatClampNeg, v)
    else
      zix x2 (zlen (zrf x0 28)) <|
      zix (0 : Int32) (zlen (zrf (zrf x0 28) (x2).toNatClampNeg)) <|
      if (2 : Int32) ≤ (v (zrf (zrf x0 28) (x2).toNatClampNeg) ((0 : Int32)).toNatClampNeg) then
        zix x2 (zlen (zrf x0 28)) <|
        zix (0 : Int32) (zlen (zrf (zrf x0 28) (x2).toNatClampNeg)) <|
        zix ((x1 + (-1 : Int32)) - (1 : Int32)) (zlen (zrf x0 33)) <|
        zix (x1 + (-1 : Int32)) (zlen (zrf x0 33)) <|
        zbind (fX10_by (v (zrf (zrf x0 28) (x2).toNatClampNeg) ((0 : Int32)).toNatClampNeg) (v (zrf x0 33) ((x1 + (-1 : Int32)) - (1 : Int32)).toNatClampNeg) (v (zrf x0 33) (x1 + (-1 : Int32)).toNatClampNeg) v) fun r_2 v_1 =>
        zix ((x1 + (-1 : Int32)) - (1 : Int32)) (zlen (zrf x0 33)) <|
        zlet (zup v_1 (zrf x0 33) ((x1 + (-1 : Int32)) - (1 : Int32)).toNatClampNeg r_2) fun v_3 =>
        (fX10_byLaw_28 n) x0 (x1 + (-1 : Int32)) (x2 + (1 : Int32)) v_3
      else
        zix x2 (zlen (zrf x0 28)) <|
        zix (0 : Int32) (zlen (zrf (zrf x0 28) (x2).toNatClampNeg)) <|
        if (v (zrf (zrf x0 28) (x2).toNatClampNeg) ((0 : Int32)).toNatClampNeg) = (0 : Int32) then
          zix x2 (zlen (zrf x0 28)) <|
          zix (1 : Int32) (zlen (zrf (zrf x0 28) (x2).toNatClampNeg)) <|
          zix x1 (zlen (zrf x0 33)) <|
          zlet (zup v (zrf x0 33) (x1).toNatClampNeg (v (zrf (zrf x0 28) (x2).toNatClampNeg) ((1 : Int32)).toNatClampNeg)) fun v_5 =>
          (fX10_byLaw_28 n) x0 (x1 + (1 : Int32)) (x2 + (1 : Int32)) v_5
        else
          zix x2 (zlen (zrf x0 28)) <|
          zix (1 : Int32) (zlen (zrf (zrf x0 28) (x2).toNatClampNeg)) <|
          zix (v (zrf (zrf x0 28) (x2).toNatClampNeg) ((1 : Int32)).toNatClampNeg) (zlen (zrf x0 34)) <|
          zix x1 (zlen (zrf x0 33)) <|
          zlet (zup v (zrf x0 33) (x1).toNatClampNeg (v (zrf x0 34) (v (zrf (zrf x0 28) (x2).toNatClampNeg) ((1 : Int32)).toNatClampNeg).toNatClampNeg)) fun v_4 =>
          (fX10_byLaw_28 n) x0 (x1 + (1 : Int32)) (x2 + (1 : Int32)) v_4
set_option maxRecDepth 4000 in
theorem jX10_byLaw_28 (x : zCx) (G : zG) (F : zF x G cX10_byLaw 3 RX10 3 123) (hr : x.2.2.2.2.2.2.2.2.1.sig.returnType = (Option.some FieldType.int)) (hk : x.2.2.2.2.2.2.2.2.1.locks = false) (r : Int32) (w : zV)  : ∀ (n : Nat) (x0 : Nat) (t0 : zty G x0 1 10) (x1 : Int32) (x2 : Int32) (v : zV), fX10_byLaw_28 n x0 x1 x2 v = some (r, w) → zJ x G 3 (zQ x G (some (.int r)) w 0 0) 0 0 28 [(0, zr G x0), (1, .int x1), (2, .int x2)] [] v := by
  intro n
  induction n with
  | zero => intro x0 t0 x1 x2 v h; exact absurd h (by intro q; cases q)
  | succ n ih =>
    intro x0 t0 x1 x2 v h
    rw [fX10_byLaw_28] at h
    dsimp only at h
    refine z_iload_n F dX10_byLaw_28 rfl 2 rfl ?_
    refine z_aload_n F dX10_byLaw_29 rfl 0 rfl ?_
    refine zg_10_26 F t0 wF_X10_241 dX10_byLaw_30 ?_
    refine z_icmp_ge F 137 dX10_byLaw_33 rfl (fun hc => ?_) (fun hc => ?_)
    · replace h := zif_t hc h
      refine z_aload_n F dX10_byLaw_137 rfl 0 rfl ?_
      refine zg_10_33 F t0 wF_X10_79 dX10_byLaw_138 ?_
      refine z_iconst (y := (0 : Int32)) F dX10_byLaw_141 rfl ?_
      obtain ⟨hi142, h⟩ := zix_ex h
      refine z_iald F (zt_f tc_10_33 t0) dX10_byLaw_142 hi142 ?_
      cases h
      exact z_reti F hr hk dX10_byLaw_143
    · replace h := zif_f hc h
      refine z_aload_n F dX10_byLaw_36 rfl 0 rfl ?_
      refine zg_10_28 F t0 wF_X10_64 dX10_byLaw_37 ?_
      refine z_iload_n F dX10_byLaw_40 rfl 2 rfl ?_
      obtain ⟨hi41, h⟩ := zix_ex h
      refine z_aald3 F (zt_f tc_10_28 t0) dX10_byLaw_41 hi41 ?_
      refine z_iconst (y := (0 : Int32)) F dX10_byLaw_42 rfl ?_
      obtain ⟨hi43, h⟩ := zix_ex h
      refine z_iald F (zt_a tcA_3 (zt_f tc_10_28 t0) (zin_lt hi41)) dX10_byLaw_43 hi43 ?_
      refine z_iconst (y := (2 : Int32)) F dX10_byLaw_44 rfl ?_
      refine z_icmp_ge F 95 dX10_byLaw_45 rfl (fun hc => ?_) (fun hc => ?_)
      · replace h := zif_t hc h
        refine z_iinc F [(1, .int (x1 + (-1 : Int32))), (0, zr G x0), (2, .int x2)] dX10_byLaw_95 1 rfl rfl (Nat.le_of_ble_eq_true rfl) rfl ?_
        refine z_aload_n F dX10_byLaw_98 rfl 1 rfl ?_
        refine zg_10_33 F t0 wF_X10_79 dX10_byLaw_99 ?_
        refine z_iload_n F dX10_byLaw_102 rfl 0 rfl ?_
        refine z_iconst (y := (1 : Int32)) F dX10_byLaw_103 rfl ?_
        refine z_isub F dX10_byLaw_104 ?_
        refine z_aload_n F dX10_byLaw_105 rfl 1 rfl ?_
        refine zg_10_28 F t0 wF_X10_64 dX10_byLaw_106 ?_
        refine z_iload_n F dX10_byLaw_109 rfl 2 rfl ?_
        obtain ⟨hi110, h⟩ := zix_ex h
        refine z_aald3 F (zt_f tc_10_28 t0) dX10_byLaw_110 hi110 ?_
        refine z_iconst (y := (0 : Int32)) F dX10_byLaw_111 rfl ?_
        obtain ⟨hi112, h⟩ := zix_ex h
        refine z_iald F (zt_a tcA_3 (zt_f tc_10_28 t0) (zin_lt hi110)) dX10_byLaw_112 hi112 ?_
        refine z_aload_n F dX10_byLaw_113 rfl 1 rfl ?_
        refine zg_10_33 F t0 wF_X10_79 dX10_byLaw_114 ?_
        refine z_iload_n F dX10_byLaw_117 rfl 0 rfl ?_
        refine z_iconst (y := (1 : Int32)) F dX10_byLaw_118 rfl ?_
        refine z_isub F dX10_byLaw_119 ?_
        obtain ⟨hi120, h⟩ := zix_ex h
        refine z_iald F (zt_f tc_10_33 t0) dX10_byLaw_120 hi120 ?_
        refine z_aload_n F dX10_byLaw_121 rfl 1 rfl ?_
        refine zg_10_33 F t0 wF_X10_79 dX10_byLaw_122 ?_
        refine z_iload_n F dX10_byLaw_125 rfl 0 rfl ?_
        obtain ⟨hi126, h⟩ := zix_ex h
        refine z_iald F (zt_f tc_10_33 t0) dX10_byLaw_126 hi126 ?_
        obtain ⟨r_2, v_1, hq127, h⟩ := zbind_ex h
        refine z_callSi F [.int (v (zrf (zrf x0 28) (x2).toNatClampNeg) ((0 : Int32)).toNatClampNeg), .int (v (zrf x0 33) ((x1 + (-1 : Int32)) - (1 : Int32)).toNatClampNeg), .int (v (zrf x0 33) (x1 + (-1 : Int32)).toNatClampNeg)] [.int ((x1 + (-1 : Int32)) - (1 : Int32)), zr G (zrf x0 33)] (kX10_by x.2.1 G (v (zrf (zrf x0 28) (x2).toNatClampNeg) ((0 : Int32)).toNatClampNeg) (v (zrf x0 33) ((x1 + (-1 : Int32)) - (1 : Int32)).toNatClampNeg) (v (zrf x0 33) (x1 + (-1 : Int32)).toNatClampNeg) v r_2 v_1 hq127) mI_X10_by wM_X10_290 ms_X10_by dX10_byLaw_127 rfl ⟨Nat.le_of_ble_eq_true rfl, Nat.le_of_ble_eq_true rfl⟩ rfl (Nat.le_of_ble_eq_true rfl) ⟨Nat.zero_le _, Nat.zero_le _⟩ ?_
        obtain ⟨hi130, h⟩ := zix_ex h
        refine z_iast F (zt_f tc_10_33 t0) dX10_byLaw_130 hi130 ?_
        obtain ⟨v_3, ev_3, h⟩ := zlet_ex h
        refine z_heap ev_3 ?_
        refine z_iinc F [(2, .int (x2 + (1 : Int32))), (1, .int (x1 + (-1 : Int32))), (0, zr G x0)] dX10_byLaw_131 2 rfl rfl (Nat.le_of_ble_eq_true rfl) rfl ?_
        refine z_goto F 28 dX10_byLaw_134 rfl ?_
        refine z_ls [(0, zr G x0), (1, .int (x1 + (-1 : Int32))), (2, .int (x2 + (1 : Int32)))] [2, 1, 0] rfl ?_
        exact ih x0 t0 (x1 + (-1 : Int32)) (x2 + (1 : Int32)) v_3 h
      · replace h := zif_f hc h
        refine z_aload_n F dX10_byLaw_48 rfl 0 rfl ?_
        refine zg_10_33 F t0 wF_X10_79 dX10_byLaw_49 ?_
        refine z_iload_n F dX10_byLaw_52 rfl 1 rfl ?_
        refine z_aload_n F dX10_byLaw_53 rfl 0 rfl ?_
        refine zg_10_28 F t0 wF_X10_64 dX10_byLaw_54 ?_
        refine z_iload_n F dX10_byLaw_57 rfl 2 rfl ?_
        obtain ⟨hi58, h⟩ := zix_ex h
        refine z_aald3 F (zt_f tc_10_28 t0) dX10_byLaw_58 hi58 ?_
        refine z_iconst (y := (0 : Int32)) F dX10_byLaw_59 rfl ?_
        obtain ⟨hi60, h⟩ := zix_ex h
        refine z_iald F (zt_a tcA_3 (zt_f tc_10_28 t0) (zin_lt hi58)) dX10_byLaw_60 hi60 ?_
        refine z_if_ne F 75 dX10_byLaw_61 rfl (fun hc => ?_) (fun hc => ?_)
        · replace h := zif_f hc h
          refine z_aload_n F dX10_byLaw_75 rfl 0 rfl ?_
          refine zg_10_34 F t0 wF_X10_82 dX10_byLaw_76 ?_
          refine z_aload_n F dX10_byLaw_79 rfl 0 rfl ?_
          refine zg_10_28 F t0 wF_X10_64 dX10_byLaw_80 ?_
          refine z_iload_n F dX10_byLaw_83 rfl 2 rfl ?_
          obtain ⟨hi84, h⟩ := zix_ex h
          refine z_aald3 F (zt_f tc_10_28 t0) dX10_byLaw_84 hi84 ?_
          refine z_iconst (y := (1 : Int32)) F dX10_byLaw_85 rfl ?_
          obtain ⟨hi86, h⟩ := zix_ex h
          refine z_iald F (zt_a tcA_3 (zt_f tc_10_28 t0) (zin_lt hi84)) dX10_byLaw_86 hi86 ?_
          obtain ⟨hi87, h⟩ := zix_ex h
          refine z_iald F (zt_f tc_10_34 t0) dX10_byLaw_87 hi87 ?_
          obtain ⟨hi88, h⟩ := zix_ex h
          refine z_iast F (zt_f tc_10_33 t0) dX10_byLaw_88 hi88 ?_
          obtain ⟨v_4, ev_4, h⟩ := zlet_ex h
          refine z_heap ev_4 ?_
          refine z_iinc F [(1, .int (x1 + (1 : Int32))), (0, zr G x0), (2, .int x2)] dX10_byLaw_89 1 rfl rfl (Nat.le_of_ble_eq_true rfl) rfl ?_
          refine z_goto F 131 dX10_byLaw_92 rfl ?_
          refine z_iinc F [(2, .int (x2 + (1 : Int32))), (1, .int (x1 + (1 : Int32))), (0, zr G x0)] dX10_byLaw_131 2 rfl rfl (Nat.le_of_ble_eq_true rfl) rfl ?_
          refine z_goto F 28 dX10_byLaw_134 rfl ?_
          refine z_ls [(0, zr G x0), (1, .int (x1 + (1 : Int32))), (2, .int (x2 + (1 : Int32)))] [2, 1, 0] rfl ?_
          exact ih x0 t0 (x1 + (1 : Int32)) (x2 + (1 : Int32)) v_4 h
        · replace h := zif_t hc h
          refine z_aload_n F dX10_byLaw_64 rfl 0 rfl ?_
          refine zg_10_28 F t0 wF_X10_64 dX10_byLaw_65 ?_
          refine z_iload_n F dX10_byLaw_68 rfl 2 rfl ?_
          obtain ⟨hi69, h⟩ := zix_ex h
          refine z_aald3 F (zt_f tc_10_28 t0) dX10_byLaw_69 hi69 ?_
          refine z_iconst (y := (1 : Int32)) F dX10_byLaw_70 rfl ?_
          obtain ⟨hi71, h⟩ := zix_ex h
          refine z_iald F (zt_a tcA_3 (zt_f tc_10_28 t0) (zin_lt hi69)) dX10_byLaw_71 hi71 ?_
          refine z_goto F 88 dX10_byLaw_72 rfl ?_
          obtain ⟨hi88, h⟩ := zix_ex h
          refine z_iast F (zt_f tc_10_33 t0) dX10_byLaw_88 hi88 ?_
          obtain ⟨v_5, ev_5, h⟩ := zlet_ex h
          refine z_heap ev_5 ?_
          refine z_iinc F [(1, .int (x1 + (1 : Int32))), (0, zr G x0), (2, .int x2)] dX10_byLaw_89 1 rfl rfl (Nat.le_of_ble_eq_true rfl) rfl ?_
          refine z_goto F 131 dX10_byLaw_92 rfl ?_
          refine z_iinc F [(2, .int (x2 + (1 : Int32))), (1, .int (x1 + (1 : Int32))), (0, zr G x0)] dX10_byLaw_131 2 rfl rfl (Nat.le_of_ble_eq_true rfl) rfl ?_
          refine z_goto F 28 dX10_byLaw_134 rfl ?_
          refine z_ls [(0, zr G x0), (1, .int (x1 + (1 : Int32))), (2, .int (x2 + (1 : Int32)))] [2, 1, 0] rfl ?_
          exact ih x0 t0 (x1 + (1 : Int32)) (x2 + (1 : Int32)) v_5 h

def fX10_byLaw (x0 : Nat) (v : zV) : Option (Int32 × zV) :=
  if (v x0 26) = (0 : Int32) then
    zix (0 : Int32) (zlen (zrf x0 34)) <|
    zix (2 : Int32) (zlen (zrf x0 34)) <|
    some (((v (zrf x0 34) ((0 : Int32)).toNatClampNeg) * (10 : Int32)) + (v (zrf x0 34) ((2 : Int32)).toNatClampNeg), v)
  else
    fX10_byLaw_28  zFU x0 (0 : Int32) (0 : Int32) v
set_option maxRecDepth 4000 in
theorem kX10_byLaw (l : Launch) (G : zG) (x0 : Nat) (t0 : zty G x0 1 10) (v : zV) (r : Int32) (w : zV) (h : fX10_byLaw x0 v = some (r, w)) : zMet l yX10_byLaw cX10_byLaw 3 (Option.some FieldType.int) 3 123 0 0 [zr G x0] G v (some (.int r)) w := by
  refine zM_of (own := RX10) (by decide) rfl (Nat.le_of_ble_eq_true rfl) (fun x hl F hr hk hcs => ?_)
  subst hl
  refine z_ls [(0, zr G x0)] [0] rfl ?_
  unfold fX10_byLaw at h
  refine z_aload_n F dX10_byLaw_0 rfl 0 rfl ?_
  refine zg_10_26 F t0 wF_X10_241 dX10_byLaw_1 ?_
  refine z_if_ne F 24 dX10_byLaw_4 rfl (fun hc => ?_) (fun hc => ?_)
  · replace h := zif_f hc h
    refine z_iconst (y := (0 : Int32)) F dX10_byLaw_24 rfl ?_
    refine z_istore_n F [(1, .int (0 : Int32)), (0, zr G x0)] dX10_byLaw_25 rfl (Nat.le_of_ble_eq_true rfl) rfl ?_
    refine z_iconst (y := (0 : Int32)) F dX10_byLaw_26 rfl ?_
    refine z_istore_n F [(2, .int (0 : Int32)), (1, .int (0 : Int32)), (0, zr G x0)] dX10_byLaw_27 rfl (Nat.le_of_ble_eq_true rfl) rfl ?_
    refine z_ls [(0, zr G x0), (1, .int (0 : Int32)), (2, .int (0 : Int32))] [2, 1, 0] rfl ?_
    exact jX10_byLaw_28 x G F hr hk r w   zFU x0 t0 (0 : Int32) (0 : Int32) v h
  · replace h := zif_t hc h
    refine z_aload_n F dX10_byLaw_7 rfl 0 rfl ?_
    refine zg_10_34 F t0 wF_X10_82 dX10_byLaw_8 ?_
    refine z_iconst (y := (0 : Int32)) F dX10_byLaw_11 rfl ?_
    obtain ⟨hi12, h⟩ := zix_ex h
    refine z_iald F (zt_f tc_10_34 t0) dX10_byLaw_12 hi12 ?_
    refine z_bipush (y := (10 : Int32)) F dX10_byLaw_13 rfl ?_
    refine z_imul F dX10_byLaw_15 ?_
    refine z_aload_n F dX10_byLaw_16 rfl 0 rfl ?_
    refine zg_10_34 F t0 wF_X10_82 dX10_byLaw_17 ?_
    refine z_iconst (y := (2 : Int32)) F dX10_byLaw_20 rfl ?_
    obtain ⟨hi21, h⟩ := zix_ex h
    refine z_iald F (zt_f tc_10_34 t0) dX10_byLaw_21 hi21 ?_
    refine z_iadd F dX10_byLaw_22 ?_
    cases h
    exact z_reti F hr hk dX10_byLaw_23

theorem dX10_book_0 : decode cX10_book 0 = .ok (.aload_n 0, 1) := by decide +kernel
theorem dX10_book_1 : decode cX10_book 1 = .ok (.iconst 0, 1) := by decide +kernel
theorem dX10_book_2 : decode cX10_book 2 = .ok (.putfield 134, 3) := by decide +kernel
theorem dX10_book_5 : decode cX10_book 5 = .ok (.aload_n 0, 1) := by decide +kernel
theorem dX10_book_6 : decode cX10_book 6 = .ok (.iload_n 1, 1) := by decide +kernel
theorem dX10_book_7 : decode cX10_book 7 = .ok (.iconst 0, 1) := by decide +kernel
theorem dX10_book_8 : decode cX10_book 8 = .ok (.aload_n 0, 1) := by decide +kernel
theorem dX10_book_9 : decode cX10_book 9 = .ok (.getfield 137, 3) := by decide +kernel
theorem dX10_book_12 : decode cX10_book 12 = .ok (.invokestatic 168, 3) := by decide +kernel
theorem dX10_book_15 : decode cX10_book 15 = .ok (.ifCond .eq 10, 3) := by decide +kernel
theorem dX10_book_18 : decode cX10_book 18 = .ok (.iload_n 1, 1) := by decide +kernel
theorem dX10_book_19 : decode cX10_book 19 = .ok (.sipush 150, 3) := by decide +kernel
theorem dX10_book_22 : decode cX10_book 22 = .ok (.if_icmp .le 7, 3) := by decide +kernel
theorem dX10_book_25 : decode cX10_book 25 = .ok (.iconst 1, 1) := by decide +kernel
theorem dX10_book_26 : decode cX10_book 26 = .ok (.goto 4, 3) := by decide +kernel
theorem dX10_book_29 : decode cX10_book 29 = .ok (.iconst 0, 1) := by decide +kernel
theorem dX10_book_30 : decode cX10_book 30 = .ok (.iconst 1, 1) := by decide +kernel
theorem dX10_book_31 : decode cX10_book 31 = .ok (.iconst 1, 1) := by decide +kernel
theorem dX10_book_32 : decode cX10_book 32 = .ok (.invokevirtual 220, 3) := by decide +kernel
theorem dX10_book_35 : decode cX10_book 35 = .ok (.ifCond .eq 5, 3) := by decide +kernel
theorem dX10_book_38 : decode cX10_book 38 = .ok (.iconst 0, 1) := by decide +kernel
theorem dX10_book_39 : decode cX10_book 39 = .ok (.ireturn, 1) := by decide +kernel
theorem dX10_book_40 : decode cX10_book 40 = .ok (.aload_n 0, 1) := by decide +kernel
theorem dX10_book_41 : decode cX10_book 41 = .ok (.iload_n 1, 1) := by decide +kernel
theorem dX10_book_42 : decode cX10_book 42 = .ok (.invokevirtual 224, 3) := by decide +kernel
theorem dX10_book_45 : decode cX10_book 45 = .ok (.iconst 0, 1) := by decide +kernel
theorem dX10_book_46 : decode cX10_book 46 = .ok (.istore_n 2, 1) := by decide +kernel
theorem dX10_book_47 : decode cX10_book 47 = .ok (.aload_n 0, 1) := by decide +kernel
theorem dX10_book_48 : decode cX10_book 48 = .ok (.getfield 150, 3) := by decide +kernel
theorem dX10_book_51 : decode cX10_book 51 = .ok (.ifCond .ne 127, 3) := by decide +kernel
theorem dX10_book_54 : decode cX10_book 54 = .ok (.aload_n 0, 1) := by decide +kernel
theorem dX10_book_55 : decode cX10_book 55 = .ok (.getfield 143, 3) := by decide +kernel
theorem dX10_book_58 : decode cX10_book 58 = .ok (.aload_n 0, 1) := by decide +kernel
theorem dX10_book_59 : decode cX10_book 59 = .ok (.getfield 140, 3) := by decide +kernel
theorem dX10_book_62 : decode cX10_book 62 = .ok (.if_icmp .ge 116, 3) := by decide +kernel
theorem dX10_book_65 : decode cX10_book 65 = .ok (.aload_n 0, 1) := by decide +kernel
theorem dX10_book_66 : decode cX10_book 66 = .ok (.getfield 143, 3) := by decide +kernel
theorem dX10_book_69 : decode cX10_book 69 = .ok (.istore_n 3, 1) := by decide +kernel
theorem dX10_book_70 : decode cX10_book 70 = .ok (.aload_n 0, 1) := by decide +kernel
theorem dX10_book_71 : decode cX10_book 71 = .ok (.iconst 1, 1) := by decide +kernel
theorem dX10_book_72 : decode cX10_book 72 = .ok (.bipush 60, 2) := by decide +kernel
theorem dX10_book_74 : decode cX10_book 74 = .ok (.invokevirtual 202, 3) := by decide +kernel
theorem dX10_book_77 : decode cX10_book 77 = .ok (.istore 4, 2) := by decide +kernel
theorem dX10_book_79 : decode cX10_book 79 = .ok (.aload_n 0, 1) := by decide +kernel
theorem dX10_book_80 : decode cX10_book 80 = .ok (.getfield 150, 3) := by decide +kernel
theorem dX10_book_83 : decode cX10_book 83 = .ok (.ifCond .ne 15, 3) := by decide +kernel
theorem dX10_book_86 : decode cX10_book 86 = .ok (.iload_n 2, 1) := by decide +kernel
theorem dX10_book_87 : decode cX10_book 87 = .ok (.bipush 12, 2) := by decide +kernel
theorem dX10_book_89 : decode cX10_book 89 = .ok (.if_icmp .ne 9, 3) := by decide +kernel
theorem dX10_book_92 : decode cX10_book 92 = .ok (.aload_n 0, 1) := by decide +kernel
theorem dX10_book_93 : decode cX10_book 93 = .ok (.iconst 3, 1) := by decide +kernel
theorem dX10_book_94 : decode cX10_book 94 = .ok (.iload_n 3, 1) := by decide +kernel
theorem dX10_book_95 : decode cX10_book 95 = .ok (.invokevirtual 163, 3) := by decide +kernel
theorem dX10_book_98 : decode cX10_book 98 = .ok (.aload_n 0, 1) := by decide +kernel
theorem dX10_book_99 : decode cX10_book 99 = .ok (.bipush 22, 2) := by decide +kernel
theorem dX10_book_101 : decode cX10_book 101 = .ok (.bipush 15, 2) := by decide +kernel
theorem dX10_book_103 : decode cX10_book 103 = .ok (.bipush 9, 2) := by decide +kernel
theorem dX10_book_105 : decode cX10_book 105 = .ok (.iconst 4, 1) := by decide +kernel
theorem dX10_book_106 : decode cX10_book 106 = .ok (.iconst 0, 1) := by decide +kernel
theorem dX10_book_107 : decode cX10_book 107 = .ok (.iconst 0, 1) := by decide +kernel
theorem dX10_book_108 : decode cX10_book 108 = .ok (.iconst 0, 1) := by decide +kernel
theorem dX10_book_109 : decode cX10_book 109 = .ok (.iconst 0, 1) := by decide +kernel
theorem dX10_book_110 : decode cX10_book 110 = .ok (.invokevirtual 271, 3) := by decide +kernel
theorem dX10_book_113 : decode cX10_book 113 = .ok (.ifCond .eq 7, 3) := by decide +kernel
theorem dX10_book_116 : decode cX10_book 116 = .ok (.iconst (-1), 1) := by decide +kernel
theorem dX10_book_117 : decode cX10_book 117 = .ok (.goto 16, 3) := by decide +kernel
theorem dX10_book_120 : decode cX10_book 120 = .ok (.aload_n 0, 1) := by decide +kernel
theorem dX10_book_121 : decode cX10_book 121 = .ok (.iconst 0, 1) := by decide +kernel
theorem dX10_book_122 : decode cX10_book 122 = .ok (.aload_n 0, 1) := by decide +kernel
theorem dX10_book_123 : decode cX10_book 123 = .ok (.getfield 23, 3) := by decide +kernel
theorem dX10_book_126 : decode cX10_book 126 = .ok (.iconst 1, 1) := by decide +kernel
theorem dX10_book_127 : decode cX10_book 127 = .ok (.iaload, 1) := by decide +kernel
theorem dX10_book_128 : decode cX10_book 128 = .ok (.iconst 1, 1) := by decide +kernel
theorem dX10_book_129 : decode cX10_book 129 = .ok (.isub, 1) := by decide +kernel
theorem dX10_book_130 : decode cX10_book 130 = .ok (.invokevirtual 202, 3) := by decide +kernel
theorem dX10_book_133 : decode cX10_book 133 = .ok (.istore 5, 2) := by decide +kernel
theorem dX10_book_135 : decode cX10_book 135 = .ok (.aload_n 0, 1) := by decide +kernel
theorem dX10_book_136 : decode cX10_book 136 = .ok (.bipush 59, 2) := by decide +kernel
theorem dX10_book_138 : decode cX10_book 138 = .ok (.invokevirtual 216, 3) := by decide +kernel
theorem dX10_book_141 : decode cX10_book 141 = .ok (.aload_n 0, 1) := by decide +kernel
theorem dX10_book_142 : decode cX10_book 142 = .ok (.getfield 150, 3) := by decide +kernel
theorem dX10_book_145 : decode cX10_book 145 = .ok (.ifCond .ne 26, 3) := by decide +kernel
theorem dX10_book_148 : decode cX10_book 148 = .ok (.aload_n 0, 1) := by decide +kernel
theorem dX10_book_149 : decode cX10_book 149 = .ok (.getfield 73, 3) := by decide +kernel
theorem dX10_book_152 : decode cX10_book 152 = .ok (.iload_n 2, 1) := by decide +kernel
theorem dX10_book_153 : decode cX10_book 153 = .ok (.aaload, 1) := by decide +kernel
theorem dX10_book_154 : decode cX10_book 154 = .ok (.iconst 0, 1) := by decide +kernel
theorem dX10_book_155 : decode cX10_book 155 = .ok (.iload 4, 2) := by decide +kernel
theorem dX10_book_157 : decode cX10_book 157 = .ok (.iastore, 1) := by decide +kernel
theorem dX10_book_158 : decode cX10_book 158 = .ok (.aload_n 0, 1) := by decide +kernel
theorem dX10_book_159 : decode cX10_book 159 = .ok (.getfield 73, 3) := by decide +kernel
theorem dX10_book_162 : decode cX10_book 162 = .ok (.iload_n 2, 1) := by decide +kernel
theorem dX10_book_163 : decode cX10_book 163 = .ok (.aaload, 1) := by decide +kernel
theorem dX10_book_164 : decode cX10_book 164 = .ok (.iconst 1, 1) := by decide +kernel
theorem dX10_book_165 : decode cX10_book 165 = .ok (.iload 5, 2) := by decide +kernel
theorem dX10_book_167 : decode cX10_book 167 = .ok (.iastore, 1) := by decide +kernel
theorem dX10_book_168 : decode cX10_book 168 = .ok (.iinc 2 1, 3) := by decide +kernel
theorem dX10_book_171 : decode cX10_book 171 = .ok (.aload_n 0, 1) := by decide +kernel
theorem dX10_book_172 : decode cX10_book 172 = .ok (.invokevirtual 156, 3) := by decide +kernel
theorem dX10_book_175 : decode cX10_book 175 = .ok (.goto (-128), 3) := by decide +kernel
theorem dX10_book_178 : decode cX10_book 178 = .ok (.aload_n 0, 1) := by decide +kernel
theorem dX10_book_179 : decode cX10_book 179 = .ok (.getfield 150, 3) := by decide +kernel
theorem dX10_book_182 : decode cX10_book 182 = .ok (.ifCond .eq 8, 3) := by decide +kernel
theorem dX10_book_185 : decode cX10_book 185 = .ok (.aload_n 0, 1) := by decide +kernel
theorem dX10_book_186 : decode cX10_book 186 = .ok (.invokevirtual 230, 3) := by decide +kernel
theorem dX10_book_189 : decode cX10_book 189 = .ok (.ireturn, 1) := by decide +kernel
theorem dX10_book_190 : decode cX10_book 190 = .ok (.aload_n 0, 1) := by decide +kernel
theorem dX10_book_191 : decode cX10_book 191 = .ok (.iconst (-1), 1) := by decide +kernel
theorem dX10_book_192 : decode cX10_book 192 = .ok (.putfield 9, 3) := by decide +kernel
theorem dX10_book_195 : decode cX10_book 195 = .ok (.aload_n 0, 1) := by decide +kernel
theorem dX10_book_196 : decode cX10_book 196 = .ok (.iload_n 2, 1) := by decide +kernel
theorem dX10_book_197 : decode cX10_book 197 = .ok (.putfield 244, 3) := by decide +kernel
theorem dX10_book_200 : decode cX10_book 200 = .ok (.aload_n 0, 1) := by decide +kernel
theorem dX10_book_201 : decode cX10_book 201 = .ok (.getfield 73, 3) := by decide +kernel
theorem dX10_book_204 : decode cX10_book 204 = .ok (.aload_n 0, 1) := by decide +kernel
theorem dX10_book_205 : decode cX10_book 205 = .ok (.getfield 70, 3) := by decide +kernel
theorem dX10_book_208 : decode cX10_book 208 = .ok (.iload_n 2, 1) := by decide +kernel
theorem dX10_book_209 : decode cX10_book 209 = .ok (.invokestatic 233, 3) := by decide +kernel
theorem dX10_book_212 : decode cX10_book 212 = .ok (.iload_n 2, 1) := by decide +kernel
theorem dX10_book_213 : decode cX10_book 213 = .ok (.ireturn, 1) := by decide +kernel
def fX10_book_133 (K47 : Nat → Int32 → zV → Option (Int32 × zV)) (x0 : Nat) (x2 : Int32) (x4 : Int32) (s0 : Int32) (v : zV) : Option (Int32 × zV) :=
  zbindv (fX10_sign x0 (59 : Int32) v) fun v_1 =>
  if (v_1 x0 5) = (0 : Int32) then
    zix x2 (zlen (zrf x0 31)) <|
    zix (0 : Int32) (zlen (zrf (zrf x0 31) (x2).toNatClampNeg)) <|
    zlet (zup v_1 (zrf (zrf x0 31) (x2).toNatClampNeg) ((0 : Int32)).toNatClampNeg x4) fun v_3 =>
    zix x2 (zlen (zrf x0 31)) <|
    zix (1 : Int32) (zlen (zrf (zrf x0 31) (x2).toNatClampNeg)) <|
    zlet (zup v_3 (zrf (zrf x0 31) (x2).toNatClampNeg) ((1 : Int32)).toNatClampNeg s0) fun v_4 =>
    zbindv (fX10_blanks x0 v_4) fun v_5 =>
    K47 x0 (x2 + (1 : Int32)) v_5
  else
    zbindv (fX10_blanks x0 v_1) fun v_2 =>
    K47 x0 x2 v_2
set_option maxRecDepth 4000 in
theorem jX10_book_133 (x : zCx) (G : zG) (F : zF x G cX10_book 6 RX10 6 201) (hr : x.2.2.2.2.2.2.2.2.1.sig.returnType = (Option.some FieldType.int)) (hk : x.2.2.2.2.2.2.2.2.1.locks = false) (r : Int32) (w : zV) (K47 : Nat → Int32 → zV → Option (Int32 × zV)) (hK47 : ∀ (x0 : Nat) (t0 : zty G x0 1 10) (x2 : Int32) (v : zV), K47 x0 x2 v = some (r, w) → zJ x G 6 (zQ x G (some (.int r)) w 0 0) 0 0 47 [(0, zr G x0), (2, .int x2)] [] v) : ∀ (x0 : Nat) (t0 : zty G x0 1 10) (x2 : Int32) (x4 : Int32) (s0 : Int32) (v : zV), fX10_book_133 K47 x0 x2 x4 s0 v = some (r, w) → zJ x G 6 (zQ x G (some (.int r)) w 0 0) 0 0 133 [(0, zr G x0), (2, .int x2), (4, .int x4)] [.int s0] v := by
  intro x0 t0 x2 x4 s0 v h
  unfold fX10_book_133 at h
  refine z_istore (n := 0) F [(5, .int s0), (0, zr G x0), (2, .int x2), (4, .int x4)] dX10_book_133 (Nat.le_of_ble_eq_true rfl) rfl ?_
  refine z_aload_n F dX10_book_135 rfl 1 rfl ?_
  refine z_bipush (y := (59 : Int32)) F dX10_book_136 rfl ?_
  obtain ⟨v_1, hq138, h⟩ := zbindv_ex h
  refine z_callVv F [.int (59 : Int32)] [] (kX10_sign x.2.1 G x0 t0 (59 : Int32) v v_1 hq138) mI_X10_sign (c := 10) rfl t0 wM_X10_216 mi_X10_sign sl_X10_sign dX10_book_138 rfl ⟨Nat.le_of_ble_eq_true rfl, Nat.le_of_ble_eq_true rfl⟩ rfl (Nat.le_of_ble_eq_true rfl) ⟨Nat.zero_le _, Nat.zero_le _⟩ ?_
  refine z_aload_n F dX10_book_141 rfl 1 rfl ?_
  refine zg_10_5 F t0 wF_X10_150 dX10_book_142 ?_
  refine z_if_ne F 171 dX10_book_145 rfl (fun hc => ?_) (fun hc => ?_)
  · replace h := zif_f hc h
    refine z_aload_n F dX10_book_171 rfl 1 rfl ?_
    obtain ⟨v_2, hq172, h⟩ := zbindv_ex h
    refine z_callVv F [] [] (kX10_blanks x.2.1 G x0 t0 v_1 v_2 hq172) mI_X10_blanks (c := 10) rfl t0 wM_X10_156 mi_X10_blanks sl_X10_blanks dX10_book_172 rfl ⟨Nat.le_of_ble_eq_true rfl, Nat.le_of_ble_eq_true rfl⟩ rfl (Nat.le_of_ble_eq_true rfl) ⟨Nat.zero_le _, Nat.zero_le _⟩ ?_
    refine z_goto F 47 dX10_book_175 rfl ?_
    refine z_ls [(0, zr G x0), (2, .int x2)] [1, 2] rfl ?_
    exact hK47 x0 t0 x2 v_2 h
  · replace h := zif_t hc h
    refine z_aload_n F dX10_book_148 rfl 1 rfl ?_
    refine zg_10_31 F t0 wF_X10_73 dX10_book_149 ?_
    refine z_iload_n F dX10_book_152 rfl 2 rfl ?_
    obtain ⟨hi153, h⟩ := zix_ex h
    refine z_aald3 F (zt_f tc_10_31 t0) dX10_book_153 hi153 ?_
    refine z_iconst (y := (0 : Int32)) F dX10_book_154 rfl ?_
    refine z_iload F dX10_book_155 3 rfl ?_
    obtain ⟨hi157, h⟩ := zix_ex h
    refine z_iast F (zt_a tcA_3 (zt_f tc_10_31 t0) (zin_lt hi153)) dX10_book_157 hi157 ?_
    obtain ⟨v_3, ev_3, h⟩ := zlet_ex h
    refine z_heap ev_3 ?_
    refine z_aload_n F dX10_book_158 rfl 1 rfl ?_
    refine zg_10_31 F t0 wF_X10_73 dX10_book_159 ?_
    refine z_iload_n F dX10_book_162 rfl 2 rfl ?_
    obtain ⟨hi163, h⟩ := zix_ex h
    refine z_aald3 F (zt_f tc_10_31 t0) dX10_book_163 hi163 ?_
    refine z_iconst (y := (1 : Int32)) F dX10_book_164 rfl ?_
    refine z_iload F dX10_book_165 0 rfl ?_
    obtain ⟨hi167, h⟩ := zix_ex h
    refine z_iast F (zt_a tcA_3 (zt_f tc_10_31 t0) (zin_lt hi163)) dX10_book_167 hi167 ?_
    obtain ⟨v_4, ev_4, h⟩ := zlet_ex h
    refine z_heap ev_4 ?_
    refine z_iinc F [(2, .int (x2 + (1 : Int32))), (5, .int s0), (0, zr G x0), (4, .int x4)] dX10_book_168 2 rfl rfl (Nat.le_of_ble_eq_true rfl) rfl ?_
    refine z_aload_n F dX10_book_171 rfl 2 rfl ?_
    obtain ⟨v_5, hq172, h⟩ := zbindv_ex h
    refine z_callVv F [] [] (kX10_blanks x.2.1 G x0 t0 v_4 v_5 hq172) mI_X10_blanks (c := 10) rfl t0 wM_X10_156 mi_X10_blanks sl_X10_blanks dX10_book_172 rfl ⟨Nat.le_of_ble_eq_true rfl, Nat.le_of_ble_eq_true rfl⟩ rfl (Nat.le_of_ble_eq_true rfl) ⟨Nat.zero_le _, Nat.zero_le _⟩ ?_
    refine z_goto F 47 dX10_book_175 rfl ?_
    refine z_ls [(0, zr G x0), (2, .int (x2 + (1 : Int32)))] [2, 0] rfl ?_
    exact hK47 x0 t0 (x2 + (1 : Int32)) v_5 h

def fX10_book_98 (K47 : Nat → Int32 → zV → Option (Int32 × zV)) (x0 : Nat) (x2 : Int32) (x4 : Int32) (v : zV) : Option (Int32 × zV) :=
  zbind (fX10_takes x0 (22 : Int32) (15 : Int32) (9 : Int32) (4 : Int32) (0 : Int32) (0 : Int32) (0 : Int32) (0 : Int32) v) fun r_2 v_1 =>
  if r_2 = (0 : Int32) then
    zix (1 : Int32) (zlen (zrf x0 12)) <|
    zbind (fX10_number x0 (0 : Int32) ((v_1 (zrf x0 12) ((1 : Int32)).toNatClampNeg) - (1 : Int32)) v_1) fun r_4 v_3 =>
    fX10_book_133 K47 x0 x2 x4 r_4 v_3
  else
    fX10_book_133 K47 x0 x2 x4 (-1 : Int32) v_1
set_option maxRecDepth 4000 in
theorem jX10_book_98 (x : zCx) (G : zG) (F : zF x G cX10_book 6 RX10 6 201) (hr : x.2.2.2.2.2.2.2.2.1.sig.returnType = (Option.some FieldType.int)) (hk : x.2.2.2.2.2.2.2.2.1.locks = false) (r : Int32) (w : zV) (K47 : Nat → Int32 → zV → Option (Int32 × zV)) (hK47 : ∀ (x0 : Nat) (t0 : zty G x0 1 10) (x2 : Int32) (v : zV), K47 x0 x2 v = some (r, w) → zJ x G 6 (zQ x G (some (.int r)) w 0 0) 0 0 47 [(0, zr G x0), (2, .int x2)] [] v) : ∀ (x0 : Nat) (t0 : zty G x0 1 10) (x2 : Int32) (x4 : Int32) (v : zV), fX10_book_98 K47 x0 x2 x4 v = some (r, w) → zJ x G 6 (zQ x G (some (.int r)) w 0 0) 0 0 98 [(0, zr G x0), (2, .int x2), (4, .int x4)] [] v := by
  intro x0 t0 x2 x4 v h
  unfold fX10_book_98 at h
  refine z_aload_n F dX10_book_98 rfl 0 rfl ?_
  refine z_bipush (y := (22 : Int32)) F dX10_book_99 rfl ?_
  refine z_bipush (y := (15 : Int32)) F dX10_book_101 rfl ?_
  refine z_bipush (y := (9 : Int32)) F dX10_book_103 rfl ?_
  refine z_iconst (y := (4 : Int32)) F dX10_book_105 rfl ?_
  refine z_iconst (y := (0 : Int32)) F dX10_book_106 rfl ?_
  refine z_iconst (y := (0 : Int32)) F dX10_book_107 rfl ?_
  refine z_iconst (y := (0 : Int32)) F dX10_book_108 rfl ?_
  refine z_iconst (y := (0 : Int32)) F dX10_book_109 rfl ?_
  obtain ⟨r_2, v_1, hq110, h⟩ := zbind_ex h
  refine z_callVi F [.int (22 : Int32), .int (15 : Int32), .int (9 : Int32), .int (4 : Int32), .int (0 : Int32), .int (0 : Int32), .int (0 : Int32), .int (0 : Int32)] [] (kX10_takes x.2.1 G x0 t0 (22 : Int32) (15 : Int32) (9 : Int32) (4 : Int32) (0 : Int32) (0 : Int32) (0 : Int32) (0 : Int32) v r_2 v_1 hq110) mI_X10_takes (c := 10) rfl t0 wM_X10_271 mi_X10_takes sl_X10_takes dX10_book_110 rfl ⟨Nat.le_of_ble_eq_true rfl, Nat.le_of_ble_eq_true rfl⟩ rfl (Nat.le_of_ble_eq_true rfl) ⟨Nat.zero_le _, Nat.zero_le _⟩ ?_
  refine z_if_eq F 120 dX10_book_113 rfl (fun hc => ?_) (fun hc => ?_)
  · replace h := zif_t hc h
    refine z_aload_n F dX10_book_120 rfl 0 rfl ?_
    refine z_iconst (y := (0 : Int32)) F dX10_book_121 rfl ?_
    refine z_aload_n F dX10_book_122 rfl 0 rfl ?_
    refine zg_10_12 F t0 wF_X10_23 dX10_book_123 ?_
    refine z_iconst (y := (1 : Int32)) F dX10_book_126 rfl ?_
    obtain ⟨hi127, h⟩ := zix_ex h
    refine z_iald F (zt_f tc_10_12 t0) dX10_book_127 hi127 ?_
    refine z_iconst (y := (1 : Int32)) F dX10_book_128 rfl ?_
    refine z_isub F dX10_book_129 ?_
    obtain ⟨r_4, v_3, hq130, h⟩ := zbind_ex h
    refine z_callVi F [.int (0 : Int32), .int ((v_1 (zrf x0 12) ((1 : Int32)).toNatClampNeg) - (1 : Int32))] [] (kX10_number x.2.1 G x0 t0 (0 : Int32) ((v_1 (zrf x0 12) ((1 : Int32)).toNatClampNeg) - (1 : Int32)) v_1 r_4 v_3 hq130) mI_X10_number (c := 10) rfl t0 wM_X10_202 mi_X10_number sl_X10_number dX10_book_130 rfl ⟨Nat.le_of_ble_eq_true rfl, Nat.le_of_ble_eq_true rfl⟩ rfl (Nat.le_of_ble_eq_true rfl) ⟨Nat.zero_le _, Nat.zero_le _⟩ ?_
    refine z_ls [(0, zr G x0), (2, .int x2), (4, .int x4)] [0, 1, 2] rfl ?_
    exact jX10_book_133 x G F hr hk r w K47 hK47 x0 t0 x2 x4 r_4 v_3 h
  · replace h := zif_f hc h
    refine z_iconst (y := (-1 : Int32)) F dX10_book_116 rfl ?_
    refine z_goto F 133 dX10_book_117 rfl ?_
    refine z_ls [(0, zr G x0), (2, .int x2), (4, .int x4)] [0, 1, 2] rfl ?_
    exact jX10_book_133 x G F hr hk r w K47 hK47 x0 t0 x2 x4 (-1 : Int32) v_1 h

def fX10_book_178  (x0 : Nat) (x2 : Int32) (v : zV) : Option (Int32 × zV) :=
  if (v x0 5) = (0 : Int32) then
    zlet (zup v x0 3 (-1 : Int32)) fun v_1 =>
    zlet (zup v_1 x0 40 x2) fun v_2 =>
    zbindv (fX10_lays (zrf x0 31) (zrf x0 30) x2 v_2) fun v_3 =>
    some (x2, v_3)
  else
    zbind (fX10_ends x0 v) fun r_5 v_4 =>
    some (r_5, v_4)
set_option maxRecDepth 4000 in
theorem jX10_book_178 (x : zCx) (G : zG) (F : zF x G cX10_book 6 RX10 6 201) (hr : x.2.2.2.2.2.2.2.2.1.sig.returnType = (Option.some FieldType.int)) (hk : x.2.2.2.2.2.2.2.2.1.locks = false) (r : Int32) (w : zV)  : ∀ (x0 : Nat) (t0 : zty G x0 1 10) (x2 : Int32) (v : zV), fX10_book_178 x0 x2 v = some (r, w) → zJ x G 6 (zQ x G (some (.int r)) w 0 0) 0 0 178 [(0, zr G x0), (2, .int x2)] [] v := by
  intro x0 t0 x2 v h
  unfold fX10_book_178 at h
  refine z_aload_n F dX10_book_178 rfl 0 rfl ?_
  refine zg_10_5 F t0 wF_X10_150 dX10_book_179 ?_
  refine z_if_eq F 190 dX10_book_182 rfl (fun hc => ?_) (fun hc => ?_)
  · replace h := zif_t hc h
    refine z_aload_n F dX10_book_190 rfl 0 rfl ?_
    refine z_iconst (y := (-1 : Int32)) F dX10_book_191 rfl ?_
    refine zp_10_3 F t0 wF_X10_9 dX10_book_192 ?_
    obtain ⟨v_1, ev_1, h⟩ := zlet_ex h
    refine z_heap ev_1 ?_
    refine z_aload_n F dX10_book_195 rfl 0 rfl ?_
    refine z_iload_n F dX10_book_196 rfl 1 rfl ?_
    refine zp_10_40 F t0 wF_X10_244 dX10_book_197 ?_
    obtain ⟨v_2, ev_2, h⟩ := zlet_ex h
    refine z_heap ev_2 ?_
    refine z_aload_n F dX10_book_200 rfl 0 rfl ?_
    refine zg_10_31 F t0 wF_X10_73 dX10_book_201 ?_
    refine z_aload_n F dX10_book_204 rfl 0 rfl ?_
    refine zg_10_30 F t0 wF_X10_70 dX10_book_205 ?_
    refine z_iload_n F dX10_book_208 rfl 1 rfl ?_
    obtain ⟨v_3, hq209, h⟩ := zbindv_ex h
    refine z_callSv F [zr G (zrf x0 31), zr G (zrf x0 30), .int x2] [] (kX10_lays x.2.1 G (zrf x0 31) (zt_f tc_10_31 t0) (zrf x0 30) (zt_f tc_10_30 t0) x2 v_2 v_3 hq209) mI_X10_lays wM_X10_233 ms_X10_lays dX10_book_209 rfl ⟨Nat.le_of_ble_eq_true rfl, Nat.le_of_ble_eq_true rfl⟩ rfl (Nat.le_of_ble_eq_true rfl) ⟨Nat.zero_le _, Nat.zero_le _⟩ ?_
    refine z_iload_n F dX10_book_212 rfl 1 rfl ?_
    cases h
    exact z_reti F hr hk dX10_book_213
  · replace h := zif_f hc h
    refine z_aload_n F dX10_book_185 rfl 0 rfl ?_
    obtain ⟨r_5, v_4, hq186, h⟩ := zbind_ex h
    refine z_callVi F [] [] (kX10_ends x.2.1 G x0 t0 v r_5 v_4 hq186) mI_X10_ends (c := 10) rfl t0 wM_X10_230 mi_X10_ends sl_X10_ends dX10_book_186 rfl ⟨Nat.le_of_ble_eq_true rfl, Nat.le_of_ble_eq_true rfl⟩ rfl (Nat.le_of_ble_eq_true rfl) ⟨Nat.zero_le _, Nat.zero_le _⟩ ?_
    cases h
    exact z_reti F hr hk dX10_book_189

def fX10_book_47  : Nat → Nat → Int32 → zV → Option (Int32 × zV)
  | 0 => fun _ _ _ => none
  | n + 1 => fun x0 x2 v =>
    if (v x0 5) = (0 : Int32) then
      if (v x0 2) ≤ (v x0 4) then
        fX10_book_178  x0 x2 v
      else
        zbind (fX10_number x0 (1 : Int32) (60 : Int32) v) fun r_2 v_1 =>
        if (v_1 x0 5) = (0 : Int32) then
          if x2 = (12 : Int32) then
            zbindv (fX10_wrong x0 (3 : Int32) (v x0 4) v_1) fun v_3 =>
            fX10_book_98 (fX10_book_47 n) x0 x2 r_2 v_3
          else
            fX10_book_98 (fX10_book_47 n) x0 x2 r_2 v_1
        else
          fX10_book_98 (fX10_book_47 n) x0 x2 r_2 v_1
    else
      fX10_book_178  x0 x2 v
set_option maxRecDepth 4000 in
theorem jX10_book_47 (x : zCx) (G : zG) (F : zF x G cX10_book 6 RX10 6 201) (hr : x.2.2.2.2.2.2.2.2.1.sig.returnType = (Option.some FieldType.int)) (hk : x.2.2.2.2.2.2.2.2.1.locks = false) (r : Int32) (w : zV)  : ∀ (n : Nat) (x0 : Nat) (t0 : zty G x0 1 10) (x2 : Int32) (v : zV), fX10_book_47 n x0 x2 v = some (r, w) → zJ x G 6 (zQ x G (some (.int r)) w 0 0) 0 0 47 [(0, zr G x0), (2, .int x2)] [] v := by
  intro n
  induction n with
  | zero => intro x0 t0 x2 v h; exact absurd h (by intro q; cases q)
  | succ n ih =>
    intro x0 t0 x2 v h
    rw [fX10_book_47] at h
    dsimp only at h
    refine z_aload_n F dX10_book_47 rfl 0 rfl ?_
    refine zg_10_5 F t0 wF_X10_150 dX10_book_48 ?_
    refine z_if_ne F 178 dX10_book_51 rfl (fun hc => ?_) (fun hc => ?_)
    · replace h := zif_f hc h
      refine z_ls [(0, zr G x0), (2, .int x2)] [0, 1] rfl ?_
      exact jX10_book_178 x G F hr hk r w   x0 t0 x2 v h
    · replace h := zif_t hc h
      refine z_aload_n F dX10_book_54 rfl 0 rfl ?_
      refine zg_10_4 F t0 wF_X10_143 dX10_book_55 ?_
      refine z_aload_n F dX10_book_58 rfl 0 rfl ?_
      refine zg_10_2 F t0 wF_X10_140 dX10_book_59 ?_
      refine z_icmp_ge F 178 dX10_book_62 rfl (fun hc => ?_) (fun hc => ?_)
      · replace h := zif_t hc h
        refine z_ls [(0, zr G x0), (2, .int x2)] [0, 1] rfl ?_
        exact jX10_book_178 x G F hr hk r w   x0 t0 x2 v h
      · replace h := zif_f hc h
        refine z_aload_n F dX10_book_65 rfl 0 rfl ?_
        refine zg_10_4 F t0 wF_X10_143 dX10_book_66 ?_
        refine z_istore_n F [(3, .int (v x0 4)), (0, zr G x0), (2, .int x2)] dX10_book_69 rfl (Nat.le_of_ble_eq_true rfl) rfl ?_
        refine z_aload_n F dX10_book_70 rfl 1 rfl ?_
        refine z_iconst (y := (1 : Int32)) F dX10_book_71 rfl ?_
        refine z_bipush (y := (60 : Int32)) F dX10_book_72 rfl ?_
        obtain ⟨r_2, v_1, hq74, h⟩ := zbind_ex h
        refine z_callVi F [.int (1 : Int32), .int (60 : Int32)] [] (kX10_number x.2.1 G x0 t0 (1 : Int32) (60 : Int32) v r_2 v_1 hq74) mI_X10_number (c := 10) rfl t0 wM_X10_202 mi_X10_number sl_X10_number dX10_book_74 rfl ⟨Nat.le_of_ble_eq_true rfl, Nat.le_of_ble_eq_true rfl⟩ rfl (Nat.le_of_ble_eq_true rfl) ⟨Nat.zero_le _, Nat.zero_le _⟩ ?_
        refine z_istore (n := 0) F [(4, .int r_2), (3, .int (v x0 4)), (0, zr G x0), (2, .int x2)] dX10_book_77 (Nat.le_of_ble_eq_true rfl) rfl ?_
        refine z_aload_n F dX10_book_79 rfl 2 rfl ?_
        refine zg_10_5 F t0 wF_X10_150 dX10_book_80 ?_
        refine z_if_ne F 98 dX10_book_83 rfl (fun hc => ?_) (fun hc => ?_)
        · replace h := zif_f hc h
          refine z_ls [(0, zr G x0), (2, .int x2), (4, .int r_2)] [2, 3, 0] rfl ?_
          exact jX10_book_98 x G F hr hk r w (fX10_book_47 n) ih x0 t0 x2 r_2 v_1 h
        · replace h := zif_t hc h
          refine z_iload_n F dX10_book_86 rfl 3 rfl ?_
          refine z_bipush (y := (12 : Int32)) F dX10_book_87 rfl ?_
          refine z_icmp_ne F 98 dX10_book_89 rfl (fun hc => ?_) (fun hc => ?_)
          · replace h := zif_f hc h
            refine z_ls [(0, zr G x0), (2, .int x2), (4, .int r_2)] [2, 3, 0] rfl ?_
            exact jX10_book_98 x G F hr hk r w (fX10_book_47 n) ih x0 t0 x2 r_2 v_1 h
          · replace h := zif_t hc h
            refine z_aload_n F dX10_book_92 rfl 2 rfl ?_
            refine z_iconst (y := (3 : Int32)) F dX10_book_93 rfl ?_
            refine z_iload_n F dX10_book_94 rfl 1 rfl ?_
            obtain ⟨v_3, hq95, h⟩ := zbindv_ex h
            refine z_callVv F [.int (3 : Int32), .int (v x0 4)] [] (kX10_wrong x.2.1 G x0 t0 (3 : Int32) (v x0 4) v_1 v_3 hq95) mI_X10_wrong (c := 10) rfl t0 wM_X10_163 mi_X10_wrong sl_X10_wrong dX10_book_95 rfl ⟨Nat.le_of_ble_eq_true rfl, Nat.le_of_ble_eq_true rfl⟩ rfl (Nat.le_of_ble_eq_true rfl) ⟨Nat.zero_le _, Nat.zero_le _⟩ ?_
            refine z_ls [(0, zr G x0), (2, .int x2), (4, .int r_2)] [2, 3, 0] rfl ?_
            exact jX10_book_98 x G F hr hk r w (fX10_book_47 n) ih x0 t0 x2 r_2 v_3 h

def fX10_book_30  (x0 : Nat) (x1 : Int32) (s0 : Nat) (s1 : Int32) (v : zV) : Option (Int32 × zV) :=
  zbind (fX10_bad s0 s1 (1 : Int32) (1 : Int32) v) fun r_2 v_1 =>
  if r_2 = (0 : Int32) then
    zbindv (fX10_starts x0 x1 v_1) fun v_3 =>
    fX10_book_47  zFU x0 (0 : Int32) v_3
  else
    some ((0 : Int32), v_1)
set_option maxRecDepth 4000 in
theorem jX10_book_30 (x : zCx) (G : zG) (F : zF x G cX10_book 6 RX10 6 201) (hr : x.2.2.2.2.2.2.2.2.1.sig.returnType = (Option.some FieldType.int)) (hk : x.2.2.2.2.2.2.2.2.1.locks = false) (r : Int32) (w : zV)  : ∀ (x0 : Nat) (t0 : zty G x0 1 10) (x1 : Int32) (s0 : Nat) (ts0 : zty G s0 1 10) (s1 : Int32) (v : zV), fX10_book_30 x0 x1 s0 s1 v = some (r, w) → zJ x G 6 (zQ x G (some (.int r)) w 0 0) 0 0 30 [(0, zr G x0), (1, .int x1)] [.int s1, zr G s0] v := by
  intro x0 t0 x1 s0 ts0 s1 v h
  unfold fX10_book_30 at h
  refine z_iconst (y := (1 : Int32)) F dX10_book_30 rfl ?_
  refine z_iconst (y := (1 : Int32)) F dX10_book_31 rfl ?_
  obtain ⟨r_2, v_1, hq32, h⟩ := zbind_ex h
  refine z_callVi F [.int s1, .int (1 : Int32), .int (1 : Int32)] [] (kX10_bad x.2.1 G s0 ts0 s1 (1 : Int32) (1 : Int32) v r_2 v_1 hq32) mI_X10_bad (c := 10) rfl ts0 wM_X10_220 mi_X10_bad sl_X10_bad dX10_book_32 rfl ⟨Nat.le_of_ble_eq_true rfl, Nat.le_of_ble_eq_true rfl⟩ rfl (Nat.le_of_ble_eq_true rfl) ⟨Nat.zero_le _, Nat.zero_le _⟩ ?_
  refine z_if_eq F 40 dX10_book_35 rfl (fun hc => ?_) (fun hc => ?_)
  · replace h := zif_t hc h
    refine z_aload_n F dX10_book_40 rfl 0 rfl ?_
    refine z_iload_n F dX10_book_41 rfl 1 rfl ?_
    obtain ⟨v_3, hq42, h⟩ := zbindv_ex h
    refine z_callVv F [.int x1] [] (kX10_starts x.2.1 G x0 t0 x1 v_1 v_3 hq42) mI_X10_starts (c := 10) rfl t0 wM_X10_224 mi_X10_starts sl_X10_starts dX10_book_42 rfl ⟨Nat.le_of_ble_eq_true rfl, Nat.le_of_ble_eq_true rfl⟩ rfl (Nat.le_of_ble_eq_true rfl) ⟨Nat.zero_le _, Nat.zero_le _⟩ ?_
    refine z_iconst (y := (0 : Int32)) F dX10_book_45 rfl ?_
    refine z_istore_n F [(2, .int (0 : Int32)), (0, zr G x0), (1, .int x1)] dX10_book_46 rfl (Nat.le_of_ble_eq_true rfl) rfl ?_
    refine z_ls [(0, zr G x0), (2, .int (0 : Int32))] [1, 0] rfl ?_
    exact jX10_book_47 x G F hr hk r w   zFU x0 t0 (0 : Int32) v_3 h
  · replace h := zif_f hc h
    refine z_iconst (y := (0 : Int32)) F dX10_book_38 rfl ?_
    cases h
    exact z_reti F hr hk dX10_book_39

def fX10_book (x0 : Nat) (x1 : Int32) (v : zV) : Option (Int32 × zV) :=
  zlet (zup v x0 0 (0 : Int32)) fun v_1 =>
  zbind (fX10_in x1 (0 : Int32) (v_1 x0 1) v_1) fun r_3 v_2 =>
  if r_3 = (0 : Int32) then
    fX10_book_30  x0 x1 x0 (1 : Int32) v_2
  else
    if x1 ≤ (150 : Int32) then
      fX10_book_30  x0 x1 x0 (0 : Int32) v_2
    else
      fX10_book_30  x0 x1 x0 (1 : Int32) v_2
set_option maxRecDepth 4000 in
theorem kX10_book (l : Launch) (G : zG) (x0 : Nat) (t0 : zty G x0 1 10) (x1 : Int32) (v : zV) (r : Int32) (w : zV) (h : fX10_book x0 x1 v = some (r, w)) : zMet l yX10_book cX10_book 6 (Option.some FieldType.int) 6 201 0 0 [zr G x0, .int x1] G v (some (.int r)) w := by
  refine zM_of (own := RX10) (by decide) rfl (Nat.le_of_ble_eq_true rfl) (fun x hl F hr hk hcs => ?_)
  subst hl
  refine z_ls [(0, zr G x0), (1, .int x1)] [0, 1] rfl ?_
  unfold fX10_book at h
  refine z_aload_n F dX10_book_0 rfl 0 rfl ?_
  refine z_iconst (y := (0 : Int32)) F dX10_book_1 rfl ?_
  refine zp_10_0 F t0 wF_X10_134 dX10_book_2 ?_
  obtain ⟨v_1, ev_1, h⟩ := zlet_ex h
  refine z_heap ev_1 ?_
  refine z_aload_n F dX10_book_5 rfl 0 rfl ?_
  refine z_iload_n F dX10_book_6 rfl 1 rfl ?_
  refine z_iconst (y := (0 : Int32)) F dX10_book_7 rfl ?_
  refine z_aload_n F dX10_book_8 rfl 0 rfl ?_
  refine zg_10_1 F t0 wF_X10_137 dX10_book_9 ?_
  obtain ⟨r_3, v_2, hq12, h⟩ := zbind_ex h
  refine z_callSi F [.int x1, .int (0 : Int32), .int (v_1 x0 1)] [zr G x0] (kX10_in x.2.1 G x1 (0 : Int32) (v_1 x0 1) v_1 r_3 v_2 hq12) mI_X10_in wM_X10_168 ms_X10_in dX10_book_12 rfl ⟨Nat.le_of_ble_eq_true rfl, Nat.le_of_ble_eq_true rfl⟩ rfl (Nat.le_of_ble_eq_true rfl) ⟨Nat.zero_le _, Nat.zero_le _⟩ ?_
  refine z_if_eq F 25 dX10_book_15 rfl (fun hc => ?_) (fun hc => ?_)
  · replace h := zif_t hc h
    refine z_iconst (y := (1 : Int32)) F dX10_book_25 rfl ?_
    refine z_goto F 30 dX10_book_26 rfl ?_
    refine z_ls [(0, zr G x0), (1, .int x1)] [0, 1] rfl ?_
    exact jX10_book_30 x G F hr hk r w   x0 t0 x1 x0 t0 (1 : Int32) v_2 h
  · replace h := zif_f hc h
    refine z_iload_n F dX10_book_18 rfl 1 rfl ?_
    refine z_sipush (y := (150 : Int32)) F dX10_book_19 rfl ?_
    refine z_icmp_le F 29 dX10_book_22 rfl (fun hc => ?_) (fun hc => ?_)
    · replace h := zif_t hc h
      refine z_iconst (y := (0 : Int32)) F dX10_book_29 rfl ?_
      refine z_ls [(0, zr G x0), (1, .int x1)] [0, 1] rfl ?_
      exact jX10_book_30 x G F hr hk r w   x0 t0 x1 x0 t0 (0 : Int32) v_2 h
    · replace h := zif_f hc h
      refine z_iconst (y := (1 : Int32)) F dX10_book_25 rfl ?_
      refine z_goto F 30 dX10_book_26 rfl ?_
      refine z_ls [(0, zr G x0), (1, .int x1)] [0, 1] rfl ?_
      exact jX10_book_30 x G F hr hk r w   x0 t0 x1 x0 t0 (1 : Int32) v_2 h

theorem dX10_fault_0 : decode cX10_fault 0 = .ok (.aload_n 0, 1) := by decide +kernel
theorem dX10_fault_1 : decode cX10_fault 1 = .ok (.iconst 0, 1) := by decide +kernel
theorem dX10_fault_2 : decode cX10_fault 2 = .ok (.putfield 134, 3) := by decide +kernel
theorem dX10_fault_5 : decode cX10_fault 5 = .ok (.aload_n 0, 1) := by decide +kernel
theorem dX10_fault_6 : decode cX10_fault 6 = .ok (.getfield 9, 3) := by decide +kernel
theorem dX10_fault_9 : decode cX10_fault 9 = .ok (.ireturn, 1) := by decide +kernel
def fX10_fault (x0 : Nat) (v : zV) : Option (Int32 × zV) :=
  zlet (zup v x0 0 (0 : Int32)) fun v_1 =>
  some (v_1 x0 3, v_1)
set_option maxRecDepth 4000 in
theorem kX10_fault (l : Launch) (G : zG) (x0 : Nat) (t0 : zty G x0 1 10) (v : zV) (r : Int32) (w : zV) (h : fX10_fault x0 v = some (r, w)) : zMet l yX10_fault cX10_fault 1 (Option.some FieldType.int) 1 80 0 0 [zr G x0] G v (some (.int r)) w := by
  refine zM_of (own := RX10) (by decide) rfl (Nat.le_of_ble_eq_true rfl) (fun x hl F hr hk hcs => ?_)
  subst hl
  refine z_ls [(0, zr G x0)] [0] rfl ?_
  unfold fX10_fault at h
  refine z_aload_n F dX10_fault_0 rfl 0 rfl ?_
  refine z_iconst (y := (0 : Int32)) F dX10_fault_1 rfl ?_
  refine zp_10_0 F t0 wF_X10_134 dX10_fault_2 ?_
  obtain ⟨v_1, ev_1, h⟩ := zlet_ex h
  refine z_heap ev_1 ?_
  refine z_aload_n F dX10_fault_5 rfl 0 rfl ?_
  refine zg_10_3 F t0 wF_X10_9 dX10_fault_6 ?_
  cases h
  exact z_reti F hr hk dX10_fault_9

theorem dX10_stateMany_0 : decode cX10_stateMany 0 = .ok (.iconst 0, 1) := by decide +kernel
theorem dX10_stateMany_1 : decode cX10_stateMany 1 = .ok (.istore_n 3, 1) := by decide +kernel
theorem dX10_stateMany_2 : decode cX10_stateMany 2 = .ok (.iconst 0, 1) := by decide +kernel
theorem dX10_stateMany_3 : decode cX10_stateMany 3 = .ok (.istore 4, 2) := by decide +kernel
theorem dX10_stateMany_5 : decode cX10_stateMany 5 = .ok (.iload 4, 2) := by decide +kernel
theorem dX10_stateMany_7 : decode cX10_stateMany 7 = .ok (.aload_n 0, 1) := by decide +kernel
theorem dX10_stateMany_8 : decode cX10_stateMany 8 = .ok (.getfield 23, 3) := by decide +kernel
theorem dX10_stateMany_11 : decode cX10_stateMany 11 = .ok (.iconst 1, 1) := by decide +kernel
theorem dX10_stateMany_12 : decode cX10_stateMany 12 = .ok (.iaload, 1) := by decide +kernel
theorem dX10_stateMany_13 : decode cX10_stateMany 13 = .ok (.if_icmp .ge 27, 3) := by decide +kernel
theorem dX10_stateMany_16 : decode cX10_stateMany 16 = .ok (.iload_n 3, 1) := by decide +kernel
theorem dX10_stateMany_17 : decode cX10_stateMany 17 = .ok (.aload_n 1, 1) := by decide +kernel
theorem dX10_stateMany_18 : decode cX10_stateMany 18 = .ok (.iconst 0, 1) := by decide +kernel
theorem dX10_stateMany_19 : decode cX10_stateMany 19 = .ok (.iload 4, 2) := by decide +kernel
theorem dX10_stateMany_21 : decode cX10_stateMany 21 = .ok (.iadd, 1) := by decide +kernel
theorem dX10_stateMany_22 : decode cX10_stateMany 22 = .ok (.iaload, 1) := by decide +kernel
theorem dX10_stateMany_23 : decode cX10_stateMany 23 = .ok (.iload_n 2, 1) := by decide +kernel
theorem dX10_stateMany_24 : decode cX10_stateMany 24 = .ok (.if_icmp .ne 7, 3) := by decide +kernel
theorem dX10_stateMany_27 : decode cX10_stateMany 27 = .ok (.iconst 1, 1) := by decide +kernel
theorem dX10_stateMany_28 : decode cX10_stateMany 28 = .ok (.goto 4, 3) := by decide +kernel
theorem dX10_stateMany_31 : decode cX10_stateMany 31 = .ok (.iconst 0, 1) := by decide +kernel
theorem dX10_stateMany_32 : decode cX10_stateMany 32 = .ok (.iadd, 1) := by decide +kernel
theorem dX10_stateMany_33 : decode cX10_stateMany 33 = .ok (.istore_n 3, 1) := by decide +kernel
theorem dX10_stateMany_34 : decode cX10_stateMany 34 = .ok (.iinc 4 1, 3) := by decide +kernel
theorem dX10_stateMany_37 : decode cX10_stateMany 37 = .ok (.goto (-32), 3) := by decide +kernel
theorem dX10_stateMany_40 : decode cX10_stateMany 40 = .ok (.iload_n 3, 1) := by decide +kernel
theorem dX10_stateMany_41 : decode cX10_stateMany 41 = .ok (.ireturn, 1) := by decide +kernel
def fX10_stateMany_5  : Nat → Nat → Nat → Int32 → Int32 → Int32 → zV → Option (Int32 × zV)
  | 0 => fun _ _ _ _ _ _ => none
  | n + 1 => fun x0 x1 x2 x3 x4 v =>
    zix (1 : Int32) (zlen (zrf x0 12)) <|
    if (v (zrf x0 12) ((1 : Int32)).toNatClampNeg) ≤ x4 then
      some (x3, v)
    else
      zix ((0 : Int32) + x4) (zlen x1) <|
      if (v x1 ((0 : Int32) + x4).toNatClampNeg) = x2 then
        (fX10_stateMany_5 n) x0 x1 x2 (x3 + (1 : Int32)) (x4 + (1 : Int32)) v
      else
        (fX10_stateMany_5 n) x0 x1 x2 (x3 + (0 : Int32)) (x4 + (1 : Int32)) v
set_option maxRecDepth 4000 in
theorem jX10_stateMany_5 (x : zCx) (G : zG) (F : zF x G cX10_stateMany 5 RX10 1 80) (hr : x.2.2.2.2.2.2.2.2.1.sig.returnType = (Option.some FieldType.int)) (hk : x.2.2.2.2.2.2.2.2.1.locks = false) (r : Int32) (w : zV)  : ∀ (n : Nat) (x0 : Nat) (t0 : zty G x0 1 10) (x1 : Nat) (t1 : zty G x1 2 0) (x2 : Int32) (x3 : Int32) (x4 : Int32) (v : zV), fX10_stateMany_5 n x0 x1 x2 x3 x4 v = some (r, w) → zJ x G 5 (zQ x G (some (.int r)) w 0 0) 0 0 5 [(0, zr G x0), (1, zr G x1), (2, .int x2), (3, .int x3), (4, .int x4)] [] v := by
  intro n
  induction n with
  | zero => intro x0 t0 x1 t1 x2 x3 x4 v h; exact absurd h (by intro q; cases q)
  | succ n ih =>
    intro x0 t0 x1 t1 x2 x3 x4 v h
    rw [fX10_stateMany_5] at h
    dsimp only at h
    refine z_iload F dX10_stateMany_5 4 rfl ?_
    refine z_aload_n F dX10_stateMany_7 rfl 0 rfl ?_
    refine zg_10_12 F t0 wF_X10_23 dX10_stateMany_8 ?_
    refine z_iconst (y := (1 : Int32)) F dX10_stateMany_11 rfl ?_
    obtain ⟨hi12, h⟩ := zix_ex h
    refine z_iald F (zt_f tc_10_12 t0) dX10_stateMany_12 hi12 ?_
    refine z_icmp_ge F 40 dX10_stateMany_13 rfl (fun hc => ?_) (fun hc => ?_)
    · replace h := zif_t hc h
      refine z_iload_n F dX10_stateMany_40 rfl 3 rfl ?_
      cases h
      exact z_reti F hr hk dX10_stateMany_41
    · replace h := zif_f hc h
      refine z_iload_n F dX10_stateMany_16 rfl 3 rfl ?_
      refine z_aload_n F dX10_stateMany_17 rfl 1 rfl ?_
      refine z_iconst (y := (0 : Int32)) F dX10_stateMany_18 rfl ?_
      refine z_iload F dX10_stateMany_19 4 rfl ?_
      refine z_iadd F dX10_stateMany_21 ?_
      obtain ⟨hi22, h⟩ := zix_ex h
      refine z_iald F t1 dX10_stateMany_22 hi22 ?_
      refine z_iload_n F dX10_stateMany_23 rfl 2 rfl ?_
      refine z_icmp_ne F 31 dX10_stateMany_24 rfl (fun hc => ?_) (fun hc => ?_)
      · replace h := zif_f hc h
        refine z_iconst (y := (0 : Int32)) F dX10_stateMany_31 rfl ?_
        refine z_iadd F dX10_stateMany_32 ?_
        refine z_istore_n F [(3, .int (x3 + (0 : Int32))), (0, zr G x0), (1, zr G x1), (2, .int x2), (4, .int x4)] dX10_stateMany_33 rfl (Nat.le_of_ble_eq_true rfl) rfl ?_
        refine z_iinc F [(4, .int (x4 + (1 : Int32))), (3, .int (x3 + (0 : Int32))), (0, zr G x0), (1, zr G x1), (2, .int x2)] dX10_stateMany_34 4 rfl rfl (Nat.le_of_ble_eq_true rfl) rfl ?_
        refine z_goto F 5 dX10_stateMany_37 rfl ?_
        refine z_ls [(0, zr G x0), (1, zr G x1), (2, .int x2), (3, .int (x3 + (0 : Int32))), (4, .int (x4 + (1 : Int32)))] [2, 3, 4, 1, 0] rfl ?_
        exact ih x0 t0 x1 t1 x2 (x3 + (0 : Int32)) (x4 + (1 : Int32)) v h
      · replace h := zif_t hc h
        refine z_iconst (y := (1 : Int32)) F dX10_stateMany_27 rfl ?_
        refine z_goto F 32 dX10_stateMany_28 rfl ?_
        refine z_iadd F dX10_stateMany_32 ?_
        refine z_istore_n F [(3, .int (x3 + (1 : Int32))), (0, zr G x0), (1, zr G x1), (2, .int x2), (4, .int x4)] dX10_stateMany_33 rfl (Nat.le_of_ble_eq_true rfl) rfl ?_
        refine z_iinc F [(4, .int (x4 + (1 : Int32))), (3, .int (x3 + (1 : Int32))), (0, zr G x0), (1, zr G x1), (2, .int x2)] dX10_stateMany_34 4 rfl rfl (Nat.le_of_ble_eq_true rfl) rfl ?_
        refine z_goto F 5 dX10_stateMany_37 rfl ?_
        refine z_ls [(0, zr G x0), (1, zr G x1), (2, .int x2), (3, .int (x3 + (1 : Int32))), (4, .int (x4 + (1 : Int32)))] [2, 3, 4, 1, 0] rfl ?_
        exact ih x0 t0 x1 t1 x2 (x3 + (1 : Int32)) (x4 + (1 : Int32)) v h

def fX10_stateMany (x0 : Nat) (x1 : Nat) (x2 : Int32) (v : zV) : Option (Int32 × zV) :=
  fX10_stateMany_5  zFU x0 x1 x2 (0 : Int32) (0 : Int32) v
set_option maxRecDepth 4000 in
theorem kX10_stateMany (l : Launch) (G : zG) (x0 : Nat) (t0 : zty G x0 1 10) (x1 : Nat) (t1 : zty G x1 2 0) (x2 : Int32) (v : zV) (r : Int32) (w : zV) (h : fX10_stateMany x0 x1 x2 v = some (r, w)) : zMet l yX10_stateMany cX10_stateMany 5 (Option.some FieldType.int) 1 80 0 0 [zr G x0, zr G x1, .int x2] G v (some (.int r)) w := by
  refine zM_of (own := RX10) (by decide) rfl (Nat.le_of_ble_eq_true rfl) (fun x hl F hr hk hcs => ?_)
  subst hl
  refine z_ls [(0, zr G x0), (1, zr G x1), (2, .int x2)] [0, 1, 2] rfl ?_
  unfold fX10_stateMany at h
  refine z_iconst (y := (0 : Int32)) F dX10_stateMany_0 rfl ?_
  refine z_istore_n F [(3, .int (0 : Int32)), (0, zr G x0), (1, zr G x1), (2, .int x2)] dX10_stateMany_1 rfl (Nat.le_of_ble_eq_true rfl) rfl ?_
  refine z_iconst (y := (0 : Int32)) F dX10_stateMany_2 rfl ?_
  refine z_istore (n := 0) F [(4, .int (0 : Int32)), (3, .int (0 : Int32)), (0, zr G x0), (1, zr G x1), (2, .int x2)] dX10_stateMany_3 (Nat.le_of_ble_eq_true rfl) rfl ?_
  refine z_ls [(0, zr G x0), (1, zr G x1), (2, .int x2), (3, .int (0 : Int32)), (4, .int (0 : Int32))] [2, 3, 4, 1, 0] rfl ?_
  exact jX10_stateMany_5 x G F hr hk r w   zFU x0 t0 x1 t1 x2 (0 : Int32) (0 : Int32) v h

theorem dX10_told_0 : decode cX10_told 0 = .ok (.aload_n 0, 1) := by decide +kernel
theorem dX10_told_1 : decode cX10_told 1 = .ok (.iconst 0, 1) := by decide +kernel
theorem dX10_told_2 : decode cX10_told 2 = .ok (.putfield 134, 3) := by decide +kernel
theorem dX10_told_5 : decode cX10_told 5 = .ok (.aload_n 0, 1) := by decide +kernel
theorem dX10_told_6 : decode cX10_told 6 = .ok (.iload_n 1, 1) := by decide +kernel
theorem dX10_told_7 : decode cX10_told 7 = .ok (.iconst 0, 1) := by decide +kernel
theorem dX10_told_8 : decode cX10_told 8 = .ok (.bipush 8, 2) := by decide +kernel
theorem dX10_told_10 : decode cX10_told 10 = .ok (.invokestatic 168, 3) := by decide +kernel
theorem dX10_told_13 : decode cX10_told 13 = .ok (.ifCond .ne 7, 3) := by decide +kernel
theorem dX10_told_16 : decode cX10_told 16 = .ok (.iconst 1, 1) := by decide +kernel
theorem dX10_told_17 : decode cX10_told 17 = .ok (.goto 4, 3) := by decide +kernel
theorem dX10_told_20 : decode cX10_told 20 = .ok (.iconst 0, 1) := by decide +kernel
theorem dX10_told_21 : decode cX10_told 21 = .ok (.iconst 1, 1) := by decide +kernel
theorem dX10_told_22 : decode cX10_told 22 = .ok (.iconst 1, 1) := by decide +kernel
theorem dX10_told_23 : decode cX10_told 23 = .ok (.invokevirtual 220, 3) := by decide +kernel
theorem dX10_told_26 : decode cX10_told 26 = .ok (.ifCond .eq 5, 3) := by decide +kernel
theorem dX10_told_29 : decode cX10_told 29 = .ok (.iconst 0, 1) := by decide +kernel
theorem dX10_told_30 : decode cX10_told 30 = .ok (.ireturn, 1) := by decide +kernel
theorem dX10_told_31 : decode cX10_told 31 = .ok (.iload_n 1, 1) := by decide +kernel
theorem dX10_told_32 : decode cX10_told 32 = .ok (.tableswitch 90 0 7 #[48, 48, 48, 55, 63, 71, 81, 81], 48) := by decide +kernel
theorem dX10_told_80 : decode cX10_told 80 = .ok (.aload_n 0, 1) := by decide +kernel
theorem dX10_told_81 : decode cX10_told 81 = .ok (.getfield 23, 3) := by decide +kernel
theorem dX10_told_84 : decode cX10_told 84 = .ok (.iload_n 1, 1) := by decide +kernel
theorem dX10_told_85 : decode cX10_told 85 = .ok (.iaload, 1) := by decide +kernel
theorem dX10_told_86 : decode cX10_told 86 = .ok (.ireturn, 1) := by decide +kernel
theorem dX10_told_87 : decode cX10_told 87 = .ok (.aload_n 0, 1) := by decide +kernel
theorem dX10_told_88 : decode cX10_told 88 = .ok (.getfield 85, 3) := by decide +kernel
theorem dX10_told_91 : decode cX10_told 91 = .ok (.bipush 99, 2) := by decide +kernel
theorem dX10_told_93 : decode cX10_told 93 = .ok (.iaload, 1) := by decide +kernel
theorem dX10_told_94 : decode cX10_told 94 = .ok (.ireturn, 1) := by decide +kernel
theorem dX10_told_95 : decode cX10_told 95 = .ok (.aload_n 0, 1) := by decide +kernel
theorem dX10_told_96 : decode cX10_told 96 = .ok (.getfield 85, 3) := by decide +kernel
theorem dX10_told_99 : decode cX10_told 99 = .ok (.bipush 61, 2) := by decide +kernel
theorem dX10_told_101 : decode cX10_told 101 = .ok (.iaload, 1) := by decide +kernel
theorem dX10_told_102 : decode cX10_told 102 = .ok (.ireturn, 1) := by decide +kernel
theorem dX10_told_103 : decode cX10_told 103 = .ok (.aload_n 0, 1) := by decide +kernel
theorem dX10_told_104 : decode cX10_told 104 = .ok (.aload_n 0, 1) := by decide +kernel
theorem dX10_told_105 : decode cX10_told 105 = .ok (.getfield 85, 3) := by decide +kernel
theorem dX10_told_108 : decode cX10_told 108 = .ok (.iconst 0, 1) := by decide +kernel
theorem dX10_told_109 : decode cX10_told 109 = .ok (.invokevirtual 294, 3) := by decide +kernel
theorem dX10_told_112 : decode cX10_told 112 = .ok (.ireturn, 1) := by decide +kernel
theorem dX10_told_113 : decode cX10_told 113 = .ok (.aload_n 0, 1) := by decide +kernel
theorem dX10_told_114 : decode cX10_told 114 = .ok (.getfield 23, 3) := by decide +kernel
theorem dX10_told_117 : decode cX10_told 117 = .ok (.iload_n 1, 1) := by decide +kernel
theorem dX10_told_118 : decode cX10_told 118 = .ok (.iconst 2, 1) := by decide +kernel
theorem dX10_told_119 : decode cX10_told 119 = .ok (.isub, 1) := by decide +kernel
theorem dX10_told_120 : decode cX10_told 120 = .ok (.iaload, 1) := by decide +kernel
theorem dX10_told_121 : decode cX10_told 121 = .ok (.ireturn, 1) := by decide +kernel
theorem dX10_told_122 : decode cX10_told 122 = .ok (.aload_n 0, 1) := by decide +kernel
theorem dX10_told_123 : decode cX10_told 123 = .ok (.getfield 244, 3) := by decide +kernel
theorem dX10_told_126 : decode cX10_told 126 = .ok (.ireturn, 1) := by decide +kernel
def fX10_told_21  (x0 : Nat) (x1 : Int32) (s0 : Nat) (s1 : Int32) (v : zV) : Option (Int32 × zV) :=
  zbind (fX10_bad s0 s1 (1 : Int32) (1 : Int32) v) fun r_2 v_1 =>
  if r_2 = (0 : Int32) then
    if x1 = (0 : Int32) then
      zix x1 (zlen (zrf x0 12)) <|
      some (v_1 (zrf x0 12) (x1).toNatClampNeg, v_1)
    else
      if x1 = (1 : Int32) then
        zix x1 (zlen (zrf x0 12)) <|
        some (v_1 (zrf x0 12) (x1).toNatClampNeg, v_1)
      else
        if x1 = (2 : Int32) then
          zix x1 (zlen (zrf x0 12)) <|
          some (v_1 (zrf x0 12) (x1).toNatClampNeg, v_1)
        else
          if x1 = (3 : Int32) then
            zix (99 : Int32) (zlen (zrf x0 35)) <|
            some (v_1 (zrf x0 35) ((99 : Int32)).toNatClampNeg, v_1)
          else
            if x1 = (4 : Int32) then
              zix (61 : Int32) (zlen (zrf x0 35)) <|
              some (v_1 (zrf x0 35) ((61 : Int32)).toNatClampNeg, v_1)
            else
              if x1 = (5 : Int32) then
                zbind (fX10_stateMany x0 (zrf x0 35) (0 : Int32) v_1) fun r_4 v_3 =>
                some (r_4, v_3)
              else
                if x1 = (6 : Int32) then
                  zix (x1 - (2 : Int32)) (zlen (zrf x0 12)) <|
                  some (v_1 (zrf x0 12) (x1 - (2 : Int32)).toNatClampNeg, v_1)
                else
                  if x1 = (7 : Int32) then
                    zix (x1 - (2 : Int32)) (zlen (zrf x0 12)) <|
                    some (v_1 (zrf x0 12) (x1 - (2 : Int32)).toNatClampNeg, v_1)
                  else
                    some (v_1 x0 40, v_1)
  else
    some ((0 : Int32), v_1)
set_option maxRecDepth 4000 in
theorem jX10_told_21 (x : zCx) (G : zG) (F : zF x G cX10_told 2 RX10 2 104) (hr : x.2.2.2.2.2.2.2.2.1.sig.returnType = (Option.some FieldType.int)) (hk : x.2.2.2.2.2.2.2.2.1.locks = false) (r : Int32) (w : zV)  : ∀ (x0 : Nat) (t0 : zty G x0 1 10) (x1 : Int32) (s0 : Nat) (ts0 : zty G s0 1 10) (s1 : Int32) (v : zV), fX10_told_21 x0 x1 s0 s1 v = some (r, w) → zJ x G 2 (zQ x G (some (.int r)) w 0 0) 0 0 21 [(0, zr G x0), (1, .int x1)] [.int s1, zr G s0] v := by
  intro x0 t0 x1 s0 ts0 s1 v h
  unfold fX10_told_21 at h
  refine z_iconst (y := (1 : Int32)) F dX10_told_21 rfl ?_
  refine z_iconst (y := (1 : Int32)) F dX10_told_22 rfl ?_
  obtain ⟨r_2, v_1, hq23, h⟩ := zbind_ex h
  refine z_callVi F [.int s1, .int (1 : Int32), .int (1 : Int32)] [] (kX10_bad x.2.1 G s0 ts0 s1 (1 : Int32) (1 : Int32) v r_2 v_1 hq23) mI_X10_bad (c := 10) rfl ts0 wM_X10_220 mi_X10_bad sl_X10_bad dX10_told_23 rfl ⟨Nat.le_of_ble_eq_true rfl, Nat.le_of_ble_eq_true rfl⟩ rfl (Nat.le_of_ble_eq_true rfl) ⟨Nat.zero_le _, Nat.zero_le _⟩ ?_
  refine z_if_eq F 31 dX10_told_26 rfl (fun hc => ?_) (fun hc => ?_)
  · replace h := zif_t hc h
    refine z_iload_n F dX10_told_31 rfl 1 rfl ?_
    by_cases hc : x1 = (0 : Int32)
    · replace h := zif_t hc h
      refine z_swIn F 80 hc dX10_told_32 (by decide) (by decide) rfl rfl ?_
      refine z_aload_n F dX10_told_80 rfl 0 rfl ?_
      refine zg_10_12 F t0 wF_X10_23 dX10_told_81 ?_
      refine z_iload_n F dX10_told_84 rfl 1 rfl ?_
      obtain ⟨hi85, h⟩ := zix_ex h
      refine z_iald F (zt_f tc_10_12 t0) dX10_told_85 hi85 ?_
      cases h
      exact z_reti F hr hk dX10_told_86
    · replace h := zif_f hc h
      have hn0 := zsw_ne hc
      by_cases hc : x1 = (1 : Int32)
      · replace h := zif_t hc h
        refine z_swIn F 80 hc dX10_told_32 (by decide) (by decide) rfl rfl ?_
        refine z_aload_n F dX10_told_80 rfl 0 rfl ?_
        refine zg_10_12 F t0 wF_X10_23 dX10_told_81 ?_
        refine z_iload_n F dX10_told_84 rfl 1 rfl ?_
        obtain ⟨hi85, h⟩ := zix_ex h
        refine z_iald F (zt_f tc_10_12 t0) dX10_told_85 hi85 ?_
        cases h
        exact z_reti F hr hk dX10_told_86
      · replace h := zif_f hc h
        have hn1 := zsw_ne hc
        by_cases hc : x1 = (2 : Int32)
        · replace h := zif_t hc h
          refine z_swIn F 80 hc dX10_told_32 (by decide) (by decide) rfl rfl ?_
          refine z_aload_n F dX10_told_80 rfl 0 rfl ?_
          refine zg_10_12 F t0 wF_X10_23 dX10_told_81 ?_
          refine z_iload_n F dX10_told_84 rfl 1 rfl ?_
          obtain ⟨hi85, h⟩ := zix_ex h
          refine z_iald F (zt_f tc_10_12 t0) dX10_told_85 hi85 ?_
          cases h
          exact z_reti F hr hk dX10_told_86
        · replace h := zif_f hc h
          have hn2 := zsw_ne hc
          by_cases hc : x1 = (3 : Int32)
          · replace h := zif_t hc h
            refine z_swIn F 87 hc dX10_told_32 (by decide) (by decide) rfl rfl ?_
            refine z_aload_n F dX10_told_87 rfl 0 rfl ?_
            refine zg_10_35 F t0 wF_X10_85 dX10_told_88 ?_
            refine z_bipush (y := (99 : Int32)) F dX10_told_91 rfl ?_
            obtain ⟨hi93, h⟩ := zix_ex h
            refine z_iald F (zt_f tc_10_35 t0) dX10_told_93 hi93 ?_
            cases h
            exact z_reti F hr hk dX10_told_94
          · replace h := zif_f hc h
            have hn3 := zsw_ne hc
            by_cases hc : x1 = (4 : Int32)
            · replace h := zif_t hc h
              refine z_swIn F 95 hc dX10_told_32 (by decide) (by decide) rfl rfl ?_
              refine z_aload_n F dX10_told_95 rfl 0 rfl ?_
              refine zg_10_35 F t0 wF_X10_85 dX10_told_96 ?_
              refine z_bipush (y := (61 : Int32)) F dX10_told_99 rfl ?_
              obtain ⟨hi101, h⟩ := zix_ex h
              refine z_iald F (zt_f tc_10_35 t0) dX10_told_101 hi101 ?_
              cases h
              exact z_reti F hr hk dX10_told_102
            · replace h := zif_f hc h
              have hn4 := zsw_ne hc
              by_cases hc : x1 = (5 : Int32)
              · replace h := zif_t hc h
                refine z_swIn F 103 hc dX10_told_32 (by decide) (by decide) rfl rfl ?_
                refine z_aload_n F dX10_told_103 rfl 0 rfl ?_
                refine z_aload_n F dX10_told_104 rfl 0 rfl ?_
                refine zg_10_35 F t0 wF_X10_85 dX10_told_105 ?_
                refine z_iconst (y := (0 : Int32)) F dX10_told_108 rfl ?_
                obtain ⟨r_4, v_3, hq109, h⟩ := zbind_ex h
                refine z_callVi F [zr G (zrf x0 35), .int (0 : Int32)] [] (kX10_stateMany x.2.1 G x0 t0 (zrf x0 35) (zt_f tc_10_35 t0) (0 : Int32) v_1 r_4 v_3 hq109) mI_X10_stateMany (c := 10) rfl t0 wM_X10_294 mi_X10_stateMany sl_X10_stateMany dX10_told_109 rfl ⟨Nat.le_of_ble_eq_true rfl, Nat.le_of_ble_eq_true rfl⟩ rfl (Nat.le_of_ble_eq_true rfl) ⟨Nat.zero_le _, Nat.zero_le _⟩ ?_
                cases h
                exact z_reti F hr hk dX10_told_112
              · replace h := zif_f hc h
                have hn5 := zsw_ne hc
                by_cases hc : x1 = (6 : Int32)
                · replace h := zif_t hc h
                  refine z_swIn F 113 hc dX10_told_32 (by decide) (by decide) rfl rfl ?_
                  refine z_aload_n F dX10_told_113 rfl 0 rfl ?_
                  refine zg_10_12 F t0 wF_X10_23 dX10_told_114 ?_
                  refine z_iload_n F dX10_told_117 rfl 1 rfl ?_
                  refine z_iconst (y := (2 : Int32)) F dX10_told_118 rfl ?_
                  refine z_isub F dX10_told_119 ?_
                  obtain ⟨hi120, h⟩ := zix_ex h
                  refine z_iald F (zt_f tc_10_12 t0) dX10_told_120 hi120 ?_
                  cases h
                  exact z_reti F hr hk dX10_told_121
                · replace h := zif_f hc h
                  have hn6 := zsw_ne hc
                  by_cases hc : x1 = (7 : Int32)
                  · replace h := zif_t hc h
                    refine z_swIn F 113 hc dX10_told_32 (by decide) (by decide) rfl rfl ?_
                    refine z_aload_n F dX10_told_113 rfl 0 rfl ?_
                    refine zg_10_12 F t0 wF_X10_23 dX10_told_114 ?_
                    refine z_iload_n F dX10_told_117 rfl 1 rfl ?_
                    refine z_iconst (y := (2 : Int32)) F dX10_told_118 rfl ?_
                    refine z_isub F dX10_told_119 ?_
                    obtain ⟨hi120, h⟩ := zix_ex h
                    refine z_iald F (zt_f tc_10_12 t0) dX10_told_120 hi120 ?_
                    cases h
                    exact z_reti F hr hk dX10_told_121
                  · replace h := zif_f hc h
                    have hn7 := zsw_ne hc
                    refine z_tableOut F 122 dX10_told_32 (by have q0 : ((0 : Int32) : Int32).toInt = 0 := rfl; have q1 : ((1 : Int32) : Int32).toInt = 1 := rfl; have q2 : ((2 : Int32) : Int32).toInt = 2 := rfl; have q3 : ((3 : Int32) : Int32).toInt = 3 := rfl; have q4 : ((4 : Int32) : Int32).toInt = 4 := rfl; have q5 : ((5 : Int32) : Int32).toInt = 5 := rfl; have q6 : ((6 : Int32) : Int32).toInt = 6 := rfl; have q7 : ((7 : Int32) : Int32).toInt = 7 := rfl; omega) rfl ?_
                    refine z_aload_n F dX10_told_122 rfl 0 rfl ?_
                    refine zg_10_40 F t0 wF_X10_244 dX10_told_123 ?_
                    cases h
                    exact z_reti F hr hk dX10_told_126
  · replace h := zif_f hc h
    refine z_iconst (y := (0 : Int32)) F dX10_told_29 rfl ?_
    cases h
    exact z_reti F hr hk dX10_told_30

def fX10_told (x0 : Nat) (x1 : Int32) (v : zV) : Option (Int32 × zV) :=
  zlet (zup v x0 0 (0 : Int32)) fun v_1 =>
  zbind (fX10_in x1 (0 : Int32) (8 : Int32) v_1) fun r_3 v_2 =>
  if r_3 = (0 : Int32) then
    fX10_told_21  x0 x1 x0 (1 : Int32) v_2
  else
    fX10_told_21  x0 x1 x0 (0 : Int32) v_2
set_option maxRecDepth 4000 in
theorem kX10_told (l : Launch) (G : zG) (x0 : Nat) (t0 : zty G x0 1 10) (x1 : Int32) (v : zV) (r : Int32) (w : zV) (h : fX10_told x0 x1 v = some (r, w)) : zMet l yX10_told cX10_told 2 (Option.some FieldType.int) 2 104 0 0 [zr G x0, .int x1] G v (some (.int r)) w := by
  refine zM_of (own := RX10) (by decide) rfl (Nat.le_of_ble_eq_true rfl) (fun x hl F hr hk hcs => ?_)
  subst hl
  refine z_ls [(0, zr G x0), (1, .int x1)] [0, 1] rfl ?_
  unfold fX10_told at h
  refine z_aload_n F dX10_told_0 rfl 0 rfl ?_
  refine z_iconst (y := (0 : Int32)) F dX10_told_1 rfl ?_
  refine zp_10_0 F t0 wF_X10_134 dX10_told_2 ?_
  obtain ⟨v_1, ev_1, h⟩ := zlet_ex h
  refine z_heap ev_1 ?_
  refine z_aload_n F dX10_told_5 rfl 0 rfl ?_
  refine z_iload_n F dX10_told_6 rfl 1 rfl ?_
  refine z_iconst (y := (0 : Int32)) F dX10_told_7 rfl ?_
  refine z_bipush (y := (8 : Int32)) F dX10_told_8 rfl ?_
  obtain ⟨r_3, v_2, hq10, h⟩ := zbind_ex h
  refine z_callSi F [.int x1, .int (0 : Int32), .int (8 : Int32)] [zr G x0] (kX10_in x.2.1 G x1 (0 : Int32) (8 : Int32) v_1 r_3 v_2 hq10) mI_X10_in wM_X10_168 ms_X10_in dX10_told_10 rfl ⟨Nat.le_of_ble_eq_true rfl, Nat.le_of_ble_eq_true rfl⟩ rfl (Nat.le_of_ble_eq_true rfl) ⟨Nat.zero_le _, Nat.zero_le _⟩ ?_
  refine z_if_ne F 20 dX10_told_13 rfl (fun hc => ?_) (fun hc => ?_)
  · replace h := zif_f hc h
    refine z_iconst (y := (0 : Int32)) F dX10_told_20 rfl ?_
    refine z_ls [(0, zr G x0), (1, .int x1)] [0, 1] rfl ?_
    exact jX10_told_21 x G F hr hk r w   x0 t0 x1 x0 t0 (0 : Int32) v_2 h
  · replace h := zif_t hc h
    refine z_iconst (y := (1 : Int32)) F dX10_told_16 rfl ?_
    refine z_goto F 21 dX10_told_17 rfl ?_
    refine z_ls [(0, zr G x0), (1, .int x1)] [0, 1] rfl ?_
    exact jX10_told_21 x G F hr hk r w   x0 t0 x1 x0 t0 (1 : Int32) v_2 h

theorem dX10_isMan_0 : decode cX10_isMan 0 = .ok (.iload_n 1, 1) := by decide +kernel
theorem dX10_isMan_1 : decode cX10_isMan 1 = .ok (.iconst 0, 1) := by decide +kernel
theorem dX10_isMan_2 : decode cX10_isMan 2 = .ok (.aload_n 0, 1) := by decide +kernel
theorem dX10_isMan_3 : decode cX10_isMan 3 = .ok (.getfield 23, 3) := by decide +kernel
theorem dX10_isMan_6 : decode cX10_isMan 6 = .ok (.iconst 1, 1) := by decide +kernel
theorem dX10_isMan_7 : decode cX10_isMan 7 = .ok (.iaload, 1) := by decide +kernel
theorem dX10_isMan_8 : decode cX10_isMan 8 = .ok (.iconst 1, 1) := by decide +kernel
theorem dX10_isMan_9 : decode cX10_isMan 9 = .ok (.isub, 1) := by decide +kernel
theorem dX10_isMan_10 : decode cX10_isMan 10 = .ok (.invokestatic 168, 3) := by decide +kernel
theorem dX10_isMan_13 : decode cX10_isMan 13 = .ok (.ireturn, 1) := by decide +kernel
def fX10_isMan (x0 : Nat) (x1 : Int32) (v : zV) : Option (Int32 × zV) :=
  zix (1 : Int32) (zlen (zrf x0 12)) <|
  zbind (fX10_in x1 (0 : Int32) ((v (zrf x0 12) ((1 : Int32)).toNatClampNeg) - (1 : Int32)) v) fun r_2 v_1 =>
  zbl r_2 <|
  some (r_2, v_1)
set_option maxRecDepth 4000 in
theorem kX10_isMan (l : Launch) (G : zG) (x0 : Nat) (t0 : zty G x0 1 10) (x1 : Int32) (v : zV) (r : Int32) (w : zV) (h : fX10_isMan x0 x1 v = some (r, w)) : zMet l yX10_isMan cX10_isMan 2 (Option.some FieldType.boolean) 2 102 0 0 [zr G x0, .int x1] G v (some (.int r)) w := by
  refine zM_of (own := RX10) (by decide) rfl (Nat.le_of_ble_eq_true rfl) (fun x hl F hr hk hcs => ?_)
  subst hl
  refine z_ls [(0, zr G x0), (1, .int x1)] [0, 1] rfl ?_
  unfold fX10_isMan at h
  refine z_iload_n F dX10_isMan_0 rfl 1 rfl ?_
  refine z_iconst (y := (0 : Int32)) F dX10_isMan_1 rfl ?_
  refine z_aload_n F dX10_isMan_2 rfl 0 rfl ?_
  refine zg_10_12 F t0 wF_X10_23 dX10_isMan_3 ?_
  refine z_iconst (y := (1 : Int32)) F dX10_isMan_6 rfl ?_
  obtain ⟨hi7, h⟩ := zix_ex h
  refine z_iald F (zt_f tc_10_12 t0) dX10_isMan_7 hi7 ?_
  refine z_iconst (y := (1 : Int32)) F dX10_isMan_8 rfl ?_
  refine z_isub F dX10_isMan_9 ?_
  obtain ⟨r_2, v_1, hq10, h⟩ := zbind_ex h
  refine z_callSi F [.int x1, .int (0 : Int32), .int ((v (zrf x0 12) ((1 : Int32)).toNatClampNeg) - (1 : Int32))] [] (kX10_in x.2.1 G x1 (0 : Int32) ((v (zrf x0 12) ((1 : Int32)).toNatClampNeg) - (1 : Int32)) v r_2 v_1 hq10) mI_X10_in wM_X10_168 ms_X10_in dX10_isMan_10 rfl ⟨Nat.le_of_ble_eq_true rfl, Nat.le_of_ble_eq_true rfl⟩ rfl (Nat.le_of_ble_eq_true rfl) ⟨Nat.zero_le _, Nat.zero_le _⟩ ?_
  obtain ⟨hz13, h⟩ := zbl_ex h
  cases h
  exact z_retz F hr hk hz13 dX10_isMan_13

theorem dX10_isQuestion_0 : decode cX10_isQuestion 0 = .ok (.iload_n 1, 1) := by decide +kernel
theorem dX10_isQuestion_1 : decode cX10_isQuestion 1 = .ok (.iconst 0, 1) := by decide +kernel
theorem dX10_isQuestion_2 : decode cX10_isQuestion 2 = .ok (.aload_n 0, 1) := by decide +kernel
theorem dX10_isQuestion_3 : decode cX10_isQuestion 3 = .ok (.getfield 23, 3) := by decide +kernel
theorem dX10_isQuestion_6 : decode cX10_isQuestion 6 = .ok (.iconst 0, 1) := by decide +kernel
theorem dX10_isQuestion_7 : decode cX10_isQuestion 7 = .ok (.iaload, 1) := by decide +kernel
theorem dX10_isQuestion_8 : decode cX10_isQuestion 8 = .ok (.iconst 1, 1) := by decide +kernel
theorem dX10_isQuestion_9 : decode cX10_isQuestion 9 = .ok (.isub, 1) := by decide +kernel
theorem dX10_isQuestion_10 : decode cX10_isQuestion 10 = .ok (.invokestatic 168, 3) := by decide +kernel
theorem dX10_isQuestion_13 : decode cX10_isQuestion 13 = .ok (.ireturn, 1) := by decide +kernel
def fX10_isQuestion (x0 : Nat) (x1 : Int32) (v : zV) : Option (Int32 × zV) :=
  zix (0 : Int32) (zlen (zrf x0 12)) <|
  zbind (fX10_in x1 (0 : Int32) ((v (zrf x0 12) ((0 : Int32)).toNatClampNeg) - (1 : Int32)) v) fun r_2 v_1 =>
  zbl r_2 <|
  some (r_2, v_1)
set_option maxRecDepth 4000 in
theorem kX10_isQuestion (l : Launch) (G : zG) (x0 : Nat) (t0 : zty G x0 1 10) (x1 : Int32) (v : zV) (r : Int32) (w : zV) (h : fX10_isQuestion x0 x1 v = some (r, w)) : zMet l yX10_isQuestion cX10_isQuestion 2 (Option.some FieldType.boolean) 2 102 0 0 [zr G x0, .int x1] G v (some (.int r)) w := by
  refine zM_of (own := RX10) (by decide) rfl (Nat.le_of_ble_eq_true rfl) (fun x hl F hr hk hcs => ?_)
  subst hl
  refine z_ls [(0, zr G x0), (1, .int x1)] [0, 1] rfl ?_
  unfold fX10_isQuestion at h
  refine z_iload_n F dX10_isQuestion_0 rfl 1 rfl ?_
  refine z_iconst (y := (0 : Int32)) F dX10_isQuestion_1 rfl ?_
  refine z_aload_n F dX10_isQuestion_2 rfl 0 rfl ?_
  refine zg_10_12 F t0 wF_X10_23 dX10_isQuestion_3 ?_
  refine z_iconst (y := (0 : Int32)) F dX10_isQuestion_6 rfl ?_
  obtain ⟨hi7, h⟩ := zix_ex h
  refine z_iald F (zt_f tc_10_12 t0) dX10_isQuestion_7 hi7 ?_
  refine z_iconst (y := (1 : Int32)) F dX10_isQuestion_8 rfl ?_
  refine z_isub F dX10_isQuestion_9 ?_
  obtain ⟨r_2, v_1, hq10, h⟩ := zbind_ex h
  refine z_callSi F [.int x1, .int (0 : Int32), .int ((v (zrf x0 12) ((0 : Int32)).toNatClampNeg) - (1 : Int32))] [] (kX10_in x.2.1 G x1 (0 : Int32) ((v (zrf x0 12) ((0 : Int32)).toNatClampNeg) - (1 : Int32)) v r_2 v_1 hq10) mI_X10_in wM_X10_168 ms_X10_in dX10_isQuestion_10 rfl ⟨Nat.le_of_ble_eq_true rfl, Nat.le_of_ble_eq_true rfl⟩ rfl (Nat.le_of_ble_eq_true rfl) ⟨Nat.zero_le _, Nat.zero_le _⟩ ?_
  obtain ⟨hz13, h⟩ := zbl_ex h
  cases h
  exact z_retz F hr hk hz13 dX10_isQuestion_13

theorem dX10_chairOf_0 : decode cX10_chairOf 0 = .ok (.iconst 0, 1) := by decide +kernel
theorem dX10_chairOf_1 : decode cX10_chairOf 1 = .ok (.istore_n 2, 1) := by decide +kernel
theorem dX10_chairOf_2 : decode cX10_chairOf 2 = .ok (.iload_n 2, 1) := by decide +kernel
theorem dX10_chairOf_3 : decode cX10_chairOf 3 = .ok (.aload_n 0, 1) := by decide +kernel
theorem dX10_chairOf_4 : decode cX10_chairOf 4 = .ok (.bipush 61, 2) := by decide +kernel
theorem dX10_chairOf_6 : decode cX10_chairOf 6 = .ok (.iaload, 1) := by decide +kernel
theorem dX10_chairOf_7 : decode cX10_chairOf 7 = .ok (.if_icmp .ge 21, 3) := by decide +kernel
theorem dX10_chairOf_10 : decode cX10_chairOf 10 = .ok (.aload_n 0, 1) := by decide +kernel
theorem dX10_chairOf_11 : decode cX10_chairOf 11 = .ok (.bipush 48, 2) := by decide +kernel
theorem dX10_chairOf_13 : decode cX10_chairOf 13 = .ok (.iload_n 2, 1) := by decide +kernel
theorem dX10_chairOf_14 : decode cX10_chairOf 14 = .ok (.iadd, 1) := by decide +kernel
theorem dX10_chairOf_15 : decode cX10_chairOf 15 = .ok (.iaload, 1) := by decide +kernel
theorem dX10_chairOf_16 : decode cX10_chairOf 16 = .ok (.iload_n 1, 1) := by decide +kernel
theorem dX10_chairOf_17 : decode cX10_chairOf 17 = .ok (.if_icmp .ne 5, 3) := by decide +kernel
theorem dX10_chairOf_20 : decode cX10_chairOf 20 = .ok (.iload_n 2, 1) := by decide +kernel
theorem dX10_chairOf_21 : decode cX10_chairOf 21 = .ok (.ireturn, 1) := by decide +kernel
theorem dX10_chairOf_22 : decode cX10_chairOf 22 = .ok (.iinc 2 1, 3) := by decide +kernel
theorem dX10_chairOf_25 : decode cX10_chairOf 25 = .ok (.goto (-23), 3) := by decide +kernel
theorem dX10_chairOf_28 : decode cX10_chairOf 28 = .ok (.iconst (-1), 1) := by decide +kernel
theorem dX10_chairOf_29 : decode cX10_chairOf 29 = .ok (.ireturn, 1) := by decide +kernel
def fX10_chairOf_2  : Nat → Nat → Int32 → Int32 → zV → Option (Int32 × zV)
  | 0 => fun _ _ _ _ => none
  | n + 1 => fun x0 x1 x2 v =>
    zix (61 : Int32) (zlen x0) <|
    if (v x0 ((61 : Int32)).toNatClampNeg) ≤ x2 then
      some ((-1 : Int32), v)
    else
      zix ((48 : Int32) + x2) (zlen x0) <|
      if (v x0 ((48 : Int32) + x2).toNatClampNeg) = x1 then
        some (x2, v)
      else
        (fX10_chairOf_2 n) x0 x1 (x2 + (1 : Int32)) v
set_option maxRecDepth 4000 in
theorem jX10_chairOf_2 (x : zCx) (G : zG) (F : zF x G cX10_chairOf 3 RX10 1 80) (hr : x.2.2.2.2.2.2.2.2.1.sig.returnType = (Option.some FieldType.int)) (hk : x.2.2.2.2.2.2.2.2.1.locks = false) (r : Int32) (w : zV)  : ∀ (n : Nat) (x0 : Nat) (t0 : zty G x0 2 0) (x1 : Int32) (x2 : Int32) (v : zV), fX10_chairOf_2 n x0 x1 x2 v = some (r, w) → zJ x G 3 (zQ x G (some (.int r)) w 0 0) 0 0 2 [(0, zr G x0), (1, .int x1), (2, .int x2)] [] v := by
  intro n
  induction n with
  | zero => intro x0 t0 x1 x2 v h; exact absurd h (by intro q; cases q)
  | succ n ih =>
    intro x0 t0 x1 x2 v h
    rw [fX10_chairOf_2] at h
    dsimp only at h
    refine z_iload_n F dX10_chairOf_2 rfl 2 rfl ?_
    refine z_aload_n F dX10_chairOf_3 rfl 0 rfl ?_
    refine z_bipush (y := (61 : Int32)) F dX10_chairOf_4 rfl ?_
    obtain ⟨hi6, h⟩ := zix_ex h
    refine z_iald F t0 dX10_chairOf_6 hi6 ?_
    refine z_icmp_ge F 28 dX10_chairOf_7 rfl (fun hc => ?_) (fun hc => ?_)
    · replace h := zif_t hc h
      refine z_iconst (y := (-1 : Int32)) F dX10_chairOf_28 rfl ?_
      cases h
      exact z_reti F hr hk dX10_chairOf_29
    · replace h := zif_f hc h
      refine z_aload_n F dX10_chairOf_10 rfl 0 rfl ?_
      refine z_bipush (y := (48 : Int32)) F dX10_chairOf_11 rfl ?_
      refine z_iload_n F dX10_chairOf_13 rfl 2 rfl ?_
      refine z_iadd F dX10_chairOf_14 ?_
      obtain ⟨hi15, h⟩ := zix_ex h
      refine z_iald F t0 dX10_chairOf_15 hi15 ?_
      refine z_iload_n F dX10_chairOf_16 rfl 1 rfl ?_
      refine z_icmp_ne F 22 dX10_chairOf_17 rfl (fun hc => ?_) (fun hc => ?_)
      · replace h := zif_f hc h
        refine z_iinc F [(2, .int (x2 + (1 : Int32))), (0, zr G x0), (1, .int x1)] dX10_chairOf_22 2 rfl rfl (Nat.le_of_ble_eq_true rfl) rfl ?_
        refine z_goto F 2 dX10_chairOf_25 rfl ?_
        refine z_ls [(0, zr G x0), (1, .int x1), (2, .int (x2 + (1 : Int32)))] [1, 2, 0] rfl ?_
        exact ih x0 t0 x1 (x2 + (1 : Int32)) v h
      · replace h := zif_t hc h
        refine z_iload_n F dX10_chairOf_20 rfl 2 rfl ?_
        cases h
        exact z_reti F hr hk dX10_chairOf_21

def fX10_chairOf (x0 : Nat) (x1 : Int32) (v : zV) : Option (Int32 × zV) :=
  fX10_chairOf_2  zFU x0 x1 (0 : Int32) v
set_option maxRecDepth 4000 in
theorem kX10_chairOf (l : Launch) (G : zG) (x0 : Nat) (t0 : zty G x0 2 0) (x1 : Int32) (v : zV) (r : Int32) (w : zV) (h : fX10_chairOf x0 x1 v = some (r, w)) : zMet l yX10_chairOf cX10_chairOf 3 (Option.some FieldType.int) 1 80 0 0 [zr G x0, .int x1] G v (some (.int r)) w := by
  refine zM_of (own := RX10) (by decide) rfl (Nat.le_of_ble_eq_true rfl) (fun x hl F hr hk hcs => ?_)
  subst hl
  refine z_ls [(0, zr G x0), (1, .int x1)] [0, 1] rfl ?_
  unfold fX10_chairOf at h
  refine z_iconst (y := (0 : Int32)) F dX10_chairOf_0 rfl ?_
  refine z_istore_n F [(2, .int (0 : Int32)), (0, zr G x0), (1, .int x1)] dX10_chairOf_1 rfl (Nat.le_of_ble_eq_true rfl) rfl ?_
  refine z_ls [(0, zr G x0), (1, .int x1), (2, .int (0 : Int32))] [1, 2, 0] rfl ?_
  exact jX10_chairOf_2 x G F hr hk r w   zFU x0 t0 x1 (0 : Int32) v h

theorem dX10_man_0 : decode cX10_man 0 = .ok (.aload_n 0, 1) := by decide +kernel
theorem dX10_man_1 : decode cX10_man 1 = .ok (.iconst 0, 1) := by decide +kernel
theorem dX10_man_2 : decode cX10_man 2 = .ok (.putfield 134, 3) := by decide +kernel
theorem dX10_man_5 : decode cX10_man 5 = .ok (.aload_n 0, 1) := by decide +kernel
theorem dX10_man_6 : decode cX10_man 6 = .ok (.aload_n 0, 1) := by decide +kernel
theorem dX10_man_7 : decode cX10_man 7 = .ok (.iload_n 1, 1) := by decide +kernel
theorem dX10_man_8 : decode cX10_man 8 = .ok (.invokevirtual 298, 3) := by decide +kernel
theorem dX10_man_11 : decode cX10_man 11 = .ok (.ifCond .ne 7, 3) := by decide +kernel
theorem dX10_man_14 : decode cX10_man 14 = .ok (.iconst 1, 1) := by decide +kernel
theorem dX10_man_15 : decode cX10_man 15 = .ok (.goto 4, 3) := by decide +kernel
theorem dX10_man_18 : decode cX10_man 18 = .ok (.iconst 0, 1) := by decide +kernel
theorem dX10_man_19 : decode cX10_man 19 = .ok (.iconst 1, 1) := by decide +kernel
theorem dX10_man_20 : decode cX10_man 20 = .ok (.iconst 0, 1) := by decide +kernel
theorem dX10_man_21 : decode cX10_man 21 = .ok (.invokevirtual 220, 3) := by decide +kernel
theorem dX10_man_24 : decode cX10_man 24 = .ok (.ifCond .ne 26, 3) := by decide +kernel
theorem dX10_man_27 : decode cX10_man 27 = .ok (.aload_n 0, 1) := by decide +kernel
theorem dX10_man_28 : decode cX10_man 28 = .ok (.iload_n 2, 1) := by decide +kernel
theorem dX10_man_29 : decode cX10_man 29 = .ok (.iconst 0, 1) := by decide +kernel
theorem dX10_man_30 : decode cX10_man 30 = .ok (.iconst 4, 1) := by decide +kernel
theorem dX10_man_31 : decode cX10_man 31 = .ok (.invokestatic 168, 3) := by decide +kernel
theorem dX10_man_34 : decode cX10_man 34 = .ok (.ifCond .ne 7, 3) := by decide +kernel
theorem dX10_man_37 : decode cX10_man 37 = .ok (.iconst 1, 1) := by decide +kernel
theorem dX10_man_38 : decode cX10_man 38 = .ok (.goto 4, 3) := by decide +kernel
theorem dX10_man_41 : decode cX10_man 41 = .ok (.iconst 0, 1) := by decide +kernel
theorem dX10_man_42 : decode cX10_man 42 = .ok (.iconst 2, 1) := by decide +kernel
theorem dX10_man_43 : decode cX10_man 43 = .ok (.iconst 1, 1) := by decide +kernel
theorem dX10_man_44 : decode cX10_man 44 = .ok (.invokevirtual 220, 3) := by decide +kernel
theorem dX10_man_47 : decode cX10_man 47 = .ok (.ifCond .eq 5, 3) := by decide +kernel
theorem dX10_man_50 : decode cX10_man 50 = .ok (.iconst 0, 1) := by decide +kernel
theorem dX10_man_51 : decode cX10_man 51 = .ok (.ireturn, 1) := by decide +kernel
theorem dX10_man_52 : decode cX10_man 52 = .ok (.iload_n 2, 1) := by decide +kernel
theorem dX10_man_53 : decode cX10_man 53 = .ok (.tableswitch 76 0 3 #[31, 48, 57, 66], 31) := by decide +kernel
theorem dX10_man_84 : decode cX10_man 84 = .ok (.aload_n 0, 1) := by decide +kernel
theorem dX10_man_85 : decode cX10_man 85 = .ok (.getfield 35, 3) := by decide +kernel
theorem dX10_man_88 : decode cX10_man 88 = .ok (.iload_n 1, 1) := by decide +kernel
theorem dX10_man_89 : decode cX10_man 89 = .ok (.iaload, 1) := by decide +kernel
theorem dX10_man_90 : decode cX10_man 90 = .ok (.aload_n 0, 1) := by decide +kernel
theorem dX10_man_91 : decode cX10_man 91 = .ok (.getfield 85, 3) := by decide +kernel
theorem dX10_man_94 : decode cX10_man 94 = .ok (.bipush 99, 2) := by decide +kernel
theorem dX10_man_96 : decode cX10_man 96 = .ok (.iaload, 1) := by decide +kernel
theorem dX10_man_97 : decode cX10_man 97 = .ok (.iadd, 1) := by decide +kernel
theorem dX10_man_98 : decode cX10_man 98 = .ok (.iconst 1, 1) := by decide +kernel
theorem dX10_man_99 : decode cX10_man 99 = .ok (.isub, 1) := by decide +kernel
theorem dX10_man_100 : decode cX10_man 100 = .ok (.ireturn, 1) := by decide +kernel
theorem dX10_man_101 : decode cX10_man 101 = .ok (.aload_n 0, 1) := by decide +kernel
theorem dX10_man_102 : decode cX10_man 102 = .ok (.getfield 85, 3) := by decide +kernel
theorem dX10_man_105 : decode cX10_man 105 = .ok (.iconst 0, 1) := by decide +kernel
theorem dX10_man_106 : decode cX10_man 106 = .ok (.iload_n 1, 1) := by decide +kernel
theorem dX10_man_107 : decode cX10_man 107 = .ok (.iadd, 1) := by decide +kernel
theorem dX10_man_108 : decode cX10_man 108 = .ok (.iaload, 1) := by decide +kernel
theorem dX10_man_109 : decode cX10_man 109 = .ok (.ireturn, 1) := by decide +kernel
theorem dX10_man_110 : decode cX10_man 110 = .ok (.aload_n 0, 1) := by decide +kernel
theorem dX10_man_111 : decode cX10_man 111 = .ok (.getfield 85, 3) := by decide +kernel
theorem dX10_man_114 : decode cX10_man 114 = .ok (.iload_n 1, 1) := by decide +kernel
theorem dX10_man_115 : decode cX10_man 115 = .ok (.invokestatic 301, 3) := by decide +kernel
theorem dX10_man_118 : decode cX10_man 118 = .ok (.ireturn, 1) := by decide +kernel
theorem dX10_man_119 : decode cX10_man 119 = .ok (.aload_n 0, 1) := by decide +kernel
theorem dX10_man_120 : decode cX10_man 120 = .ok (.getfield 85, 3) := by decide +kernel
theorem dX10_man_123 : decode cX10_man 123 = .ok (.bipush 16, 2) := by decide +kernel
theorem dX10_man_125 : decode cX10_man 125 = .ok (.iload_n 1, 1) := by decide +kernel
theorem dX10_man_126 : decode cX10_man 126 = .ok (.iadd, 1) := by decide +kernel
theorem dX10_man_127 : decode cX10_man 127 = .ok (.iaload, 1) := by decide +kernel
theorem dX10_man_128 : decode cX10_man 128 = .ok (.ireturn, 1) := by decide +kernel
theorem dX10_man_129 : decode cX10_man 129 = .ok (.aload_n 0, 1) := by decide +kernel
theorem dX10_man_130 : decode cX10_man 130 = .ok (.getfield 85, 3) := by decide +kernel
theorem dX10_man_133 : decode cX10_man 133 = .ok (.bipush 32, 2) := by decide +kernel
theorem dX10_man_135 : decode cX10_man 135 = .ok (.iload_n 1, 1) := by decide +kernel
theorem dX10_man_136 : decode cX10_man 136 = .ok (.iadd, 1) := by decide +kernel
theorem dX10_man_137 : decode cX10_man 137 = .ok (.iaload, 1) := by decide +kernel
theorem dX10_man_138 : decode cX10_man 138 = .ok (.ireturn, 1) := by decide +kernel
def fX10_man_42  (x0 : Nat) (x1 : Int32) (x2 : Int32) (s0 : Nat) (s1 : Int32) (v : zV) : Option (Int32 × zV) :=
  zbind (fX10_bad s0 s1 (2 : Int32) (1 : Int32) v) fun r_2 v_1 =>
  if r_2 = (0 : Int32) then
    if x2 = (0 : Int32) then
      zix x1 (zlen (zrf x0 16)) <|
      zix (99 : Int32) (zlen (zrf x0 35)) <|
      some (((v_1 (zrf x0 16) (x1).toNatClampNeg) + (v_1 (zrf x0 35) ((99 : Int32)).toNatClampNeg)) - (1 : Int32), v_1)
    else
      if x2 = (1 : Int32) then
        zix ((0 : Int32) + x1) (zlen (zrf x0 35)) <|
        some (v_1 (zrf x0 35) ((0 : Int32) + x1).toNatClampNeg, v_1)
      else
        if x2 = (2 : Int32) then
          zbind (fX10_chairOf (zrf x0 35) x1 v_1) fun r_4 v_3 =>
          some (r_4, v_3)
        else
          if x2 = (3 : Int32) then
            zix ((16 : Int32) + x1) (zlen (zrf x0 35)) <|
            some (v_1 (zrf x0 35) ((16 : Int32) + x1).toNatClampNeg, v_1)
          else
            zix ((32 : Int32) + x1) (zlen (zrf x0 35)) <|
            some (v_1 (zrf x0 35) ((32 : Int32) + x1).toNatClampNeg, v_1)
  else
    some ((0 : Int32), v_1)
set_option maxRecDepth 4000 in
theorem jX10_man_42 (x : zCx) (G : zG) (F : zF x G cX10_man 3 RX10 3 123) (hr : x.2.2.2.2.2.2.2.2.1.sig.returnType = (Option.some FieldType.int)) (hk : x.2.2.2.2.2.2.2.2.1.locks = false) (r : Int32) (w : zV)  : ∀ (x0 : Nat) (t0 : zty G x0 1 10) (x1 : Int32) (x2 : Int32) (s0 : Nat) (ts0 : zty G s0 1 10) (s1 : Int32) (v : zV), fX10_man_42 x0 x1 x2 s0 s1 v = some (r, w) → zJ x G 3 (zQ x G (some (.int r)) w 0 0) 0 0 42 [(0, zr G x0), (1, .int x1), (2, .int x2)] [.int s1, zr G s0] v := by
  intro x0 t0 x1 x2 s0 ts0 s1 v h
  unfold fX10_man_42 at h
  refine z_iconst (y := (2 : Int32)) F dX10_man_42 rfl ?_
  refine z_iconst (y := (1 : Int32)) F dX10_man_43 rfl ?_
  obtain ⟨r_2, v_1, hq44, h⟩ := zbind_ex h
  refine z_callVi F [.int s1, .int (2 : Int32), .int (1 : Int32)] [] (kX10_bad x.2.1 G s0 ts0 s1 (2 : Int32) (1 : Int32) v r_2 v_1 hq44) mI_X10_bad (c := 10) rfl ts0 wM_X10_220 mi_X10_bad sl_X10_bad dX10_man_44 rfl ⟨Nat.le_of_ble_eq_true rfl, Nat.le_of_ble_eq_true rfl⟩ rfl (Nat.le_of_ble_eq_true rfl) ⟨Nat.zero_le _, Nat.zero_le _⟩ ?_
  refine z_if_eq F 52 dX10_man_47 rfl (fun hc => ?_) (fun hc => ?_)
  · replace h := zif_t hc h
    refine z_iload_n F dX10_man_52 rfl 2 rfl ?_
    by_cases hc : x2 = (0 : Int32)
    · replace h := zif_t hc h
      refine z_swIn F 84 hc dX10_man_53 (by decide) (by decide) rfl rfl ?_
      refine z_aload_n F dX10_man_84 rfl 0 rfl ?_
      refine zg_10_16 F t0 wF_X10_35 dX10_man_85 ?_
      refine z_iload_n F dX10_man_88 rfl 1 rfl ?_
      obtain ⟨hi89, h⟩ := zix_ex h
      refine z_iald F (zt_f tc_10_16 t0) dX10_man_89 hi89 ?_
      refine z_aload_n F dX10_man_90 rfl 0 rfl ?_
      refine zg_10_35 F t0 wF_X10_85 dX10_man_91 ?_
      refine z_bipush (y := (99 : Int32)) F dX10_man_94 rfl ?_
      obtain ⟨hi96, h⟩ := zix_ex h
      refine z_iald F (zt_f tc_10_35 t0) dX10_man_96 hi96 ?_
      refine z_iadd F dX10_man_97 ?_
      refine z_iconst (y := (1 : Int32)) F dX10_man_98 rfl ?_
      refine z_isub F dX10_man_99 ?_
      cases h
      exact z_reti F hr hk dX10_man_100
    · replace h := zif_f hc h
      have hn0 := zsw_ne hc
      by_cases hc : x2 = (1 : Int32)
      · replace h := zif_t hc h
        refine z_swIn F 101 hc dX10_man_53 (by decide) (by decide) rfl rfl ?_
        refine z_aload_n F dX10_man_101 rfl 0 rfl ?_
        refine zg_10_35 F t0 wF_X10_85 dX10_man_102 ?_
        refine z_iconst (y := (0 : Int32)) F dX10_man_105 rfl ?_
        refine z_iload_n F dX10_man_106 rfl 1 rfl ?_
        refine z_iadd F dX10_man_107 ?_
        obtain ⟨hi108, h⟩ := zix_ex h
        refine z_iald F (zt_f tc_10_35 t0) dX10_man_108 hi108 ?_
        cases h
        exact z_reti F hr hk dX10_man_109
      · replace h := zif_f hc h
        have hn1 := zsw_ne hc
        by_cases hc : x2 = (2 : Int32)
        · replace h := zif_t hc h
          refine z_swIn F 110 hc dX10_man_53 (by decide) (by decide) rfl rfl ?_
          refine z_aload_n F dX10_man_110 rfl 0 rfl ?_
          refine zg_10_35 F t0 wF_X10_85 dX10_man_111 ?_
          refine z_iload_n F dX10_man_114 rfl 1 rfl ?_
          obtain ⟨r_4, v_3, hq115, h⟩ := zbind_ex h
          refine z_callSi F [zr G (zrf x0 35), .int x1] [] (kX10_chairOf x.2.1 G (zrf x0 35) (zt_f tc_10_35 t0) x1 v_1 r_4 v_3 hq115) mI_X10_chairOf wM_X10_301 ms_X10_chairOf dX10_man_115 rfl ⟨Nat.le_of_ble_eq_true rfl, Nat.le_of_ble_eq_true rfl⟩ rfl (Nat.le_of_ble_eq_true rfl) ⟨Nat.zero_le _, Nat.zero_le _⟩ ?_
          cases h
          exact z_reti F hr hk dX10_man_118
        · replace h := zif_f hc h
          have hn2 := zsw_ne hc
          by_cases hc : x2 = (3 : Int32)
          · replace h := zif_t hc h
            refine z_swIn F 119 hc dX10_man_53 (by decide) (by decide) rfl rfl ?_
            refine z_aload_n F dX10_man_119 rfl 0 rfl ?_
            refine zg_10_35 F t0 wF_X10_85 dX10_man_120 ?_
            refine z_bipush (y := (16 : Int32)) F dX10_man_123 rfl ?_
            refine z_iload_n F dX10_man_125 rfl 1 rfl ?_
            refine z_iadd F dX10_man_126 ?_
            obtain ⟨hi127, h⟩ := zix_ex h
            refine z_iald F (zt_f tc_10_35 t0) dX10_man_127 hi127 ?_
            cases h
            exact z_reti F hr hk dX10_man_128
          · replace h := zif_f hc h
            have hn3 := zsw_ne hc
            refine z_tableOut F 129 dX10_man_53 (by have q0 : ((0 : Int32) : Int32).toInt = 0 := rfl; have q1 : ((1 : Int32) : Int32).toInt = 1 := rfl; have q2 : ((2 : Int32) : Int32).toInt = 2 := rfl; have q3 : ((3 : Int32) : Int32).toInt = 3 := rfl; omega) rfl ?_
            refine z_aload_n F dX10_man_129 rfl 0 rfl ?_
            refine zg_10_35 F t0 wF_X10_85 dX10_man_130 ?_
            refine z_bipush (y := (32 : Int32)) F dX10_man_133 rfl ?_
            refine z_iload_n F dX10_man_135 rfl 1 rfl ?_
            refine z_iadd F dX10_man_136 ?_
            obtain ⟨hi137, h⟩ := zix_ex h
            refine z_iald F (zt_f tc_10_35 t0) dX10_man_137 hi137 ?_
            cases h
            exact z_reti F hr hk dX10_man_138
  · replace h := zif_f hc h
    refine z_iconst (y := (0 : Int32)) F dX10_man_50 rfl ?_
    cases h
    exact z_reti F hr hk dX10_man_51

def fX10_man_19  (x0 : Nat) (x1 : Int32) (x2 : Int32) (s0 : Nat) (s1 : Int32) (v : zV) : Option (Int32 × zV) :=
  zbind (fX10_bad s0 s1 (1 : Int32) (0 : Int32) v) fun r_2 v_1 =>
  if r_2 = (0 : Int32) then
    zbind (fX10_in x2 (0 : Int32) (4 : Int32) v_1) fun r_4 v_3 =>
    if r_4 = (0 : Int32) then
      fX10_man_42  x0 x1 x2 x0 (1 : Int32) v_3
    else
      fX10_man_42  x0 x1 x2 x0 (0 : Int32) v_3
  else
    some ((0 : Int32), v_1)
set_option maxRecDepth 4000 in
theorem jX10_man_19 (x : zCx) (G : zG) (F : zF x G cX10_man 3 RX10 3 123) (hr : x.2.2.2.2.2.2.2.2.1.sig.returnType = (Option.some FieldType.int)) (hk : x.2.2.2.2.2.2.2.2.1.locks = false) (r : Int32) (w : zV)  : ∀ (x0 : Nat) (t0 : zty G x0 1 10) (x1 : Int32) (x2 : Int32) (s0 : Nat) (ts0 : zty G s0 1 10) (s1 : Int32) (v : zV), fX10_man_19 x0 x1 x2 s0 s1 v = some (r, w) → zJ x G 3 (zQ x G (some (.int r)) w 0 0) 0 0 19 [(0, zr G x0), (1, .int x1), (2, .int x2)] [.int s1, zr G s0] v := by
  intro x0 t0 x1 x2 s0 ts0 s1 v h
  unfold fX10_man_19 at h
  refine z_iconst (y := (1 : Int32)) F dX10_man_19 rfl ?_
  refine z_iconst (y := (0 : Int32)) F dX10_man_20 rfl ?_
  obtain ⟨r_2, v_1, hq21, h⟩ := zbind_ex h
  refine z_callVi F [.int s1, .int (1 : Int32), .int (0 : Int32)] [] (kX10_bad x.2.1 G s0 ts0 s1 (1 : Int32) (0 : Int32) v r_2 v_1 hq21) mI_X10_bad (c := 10) rfl ts0 wM_X10_220 mi_X10_bad sl_X10_bad dX10_man_21 rfl ⟨Nat.le_of_ble_eq_true rfl, Nat.le_of_ble_eq_true rfl⟩ rfl (Nat.le_of_ble_eq_true rfl) ⟨Nat.zero_le _, Nat.zero_le _⟩ ?_
  refine z_if_ne F 50 dX10_man_24 rfl (fun hc => ?_) (fun hc => ?_)
  · replace h := zif_f hc h
    refine z_iconst (y := (0 : Int32)) F dX10_man_50 rfl ?_
    cases h
    exact z_reti F hr hk dX10_man_51
  · replace h := zif_t hc h
    refine z_aload_n F dX10_man_27 rfl 0 rfl ?_
    refine z_iload_n F dX10_man_28 rfl 2 rfl ?_
    refine z_iconst (y := (0 : Int32)) F dX10_man_29 rfl ?_
    refine z_iconst (y := (4 : Int32)) F dX10_man_30 rfl ?_
    obtain ⟨r_4, v_3, hq31, h⟩ := zbind_ex h
    refine z_callSi F [.int x2, .int (0 : Int32), .int (4 : Int32)] [zr G x0] (kX10_in x.2.1 G x2 (0 : Int32) (4 : Int32) v_1 r_4 v_3 hq31) mI_X10_in wM_X10_168 ms_X10_in dX10_man_31 rfl ⟨Nat.le_of_ble_eq_true rfl, Nat.le_of_ble_eq_true rfl⟩ rfl (Nat.le_of_ble_eq_true rfl) ⟨Nat.zero_le _, Nat.zero_le _⟩ ?_
    refine z_if_ne F 41 dX10_man_34 rfl (fun hc => ?_) (fun hc => ?_)
    · replace h := zif_f hc h
      refine z_iconst (y := (0 : Int32)) F dX10_man_41 rfl ?_
      refine z_ls [(0, zr G x0), (1, .int x1), (2, .int x2)] [0, 1, 2] rfl ?_
      exact jX10_man_42 x G F hr hk r w   x0 t0 x1 x2 x0 t0 (0 : Int32) v_3 h
    · replace h := zif_t hc h
      refine z_iconst (y := (1 : Int32)) F dX10_man_37 rfl ?_
      refine z_goto F 42 dX10_man_38 rfl ?_
      refine z_ls [(0, zr G x0), (1, .int x1), (2, .int x2)] [0, 1, 2] rfl ?_
      exact jX10_man_42 x G F hr hk r w   x0 t0 x1 x2 x0 t0 (1 : Int32) v_3 h

def fX10_man (x0 : Nat) (x1 : Int32) (x2 : Int32) (v : zV) : Option (Int32 × zV) :=
  zlet (zup v x0 0 (0 : Int32)) fun v_1 =>
  zbind (fX10_isMan x0 x1 v_1) fun r_3 v_2 =>
  if r_3 = (0 : Int32) then
    fX10_man_19  x0 x1 x2 x0 (1 : Int32) v_2
  else
    fX10_man_19  x0 x1 x2 x0 (0 : Int32) v_2
set_option maxRecDepth 4000 in
theorem kX10_man (l : Launch) (G : zG) (x0 : Nat) (t0 : zty G x0 1 10) (x1 : Int32) (x2 : Int32) (v : zV) (r : Int32) (w : zV) (h : fX10_man x0 x1 x2 v = some (r, w)) : zMet l yX10_man cX10_man 3 (Option.some FieldType.int) 3 123 0 0 [zr G x0, .int x1, .int x2] G v (some (.int r)) w := by
  refine zM_of (own := RX10) (by decide) rfl (Nat.le_of_ble_eq_true rfl) (fun x hl F hr hk hcs => ?_)
  subst hl
  refine z_ls [(0, zr G x0), (1, .int x1), (2, .int x2)] [0, 1, 2] rfl ?_
  unfold fX10_man at h
  refine z_aload_n F dX10_man_0 rfl 0 rfl ?_
  refine z_iconst (y := (0 : Int32)) F dX10_man_1 rfl ?_
  refine zp_10_0 F t0 wF_X10_134 dX10_man_2 ?_
  obtain ⟨v_1, ev_1, h⟩ := zlet_ex h
  refine z_heap ev_1 ?_
  refine z_aload_n F dX10_man_5 rfl 0 rfl ?_
  refine z_aload_n F dX10_man_6 rfl 0 rfl ?_
  refine z_iload_n F dX10_man_7 rfl 1 rfl ?_
  obtain ⟨r_3, v_2, hq8, h⟩ := zbind_ex h
  refine z_callVi F [.int x1] [zr G x0] (kX10_isMan x.2.1 G x0 t0 x1 v_1 r_3 v_2 hq8) mI_X10_isMan (c := 10) rfl t0 wM_X10_298 mi_X10_isMan sl_X10_isMan dX10_man_8 rfl ⟨Nat.le_of_ble_eq_true rfl, Nat.le_of_ble_eq_true rfl⟩ rfl (Nat.le_of_ble_eq_true rfl) ⟨Nat.zero_le _, Nat.zero_le _⟩ ?_
  refine z_if_ne F 18 dX10_man_11 rfl (fun hc => ?_) (fun hc => ?_)
  · replace h := zif_f hc h
    refine z_iconst (y := (0 : Int32)) F dX10_man_18 rfl ?_
    refine z_ls [(0, zr G x0), (1, .int x1), (2, .int x2)] [0, 1, 2] rfl ?_
    exact jX10_man_19 x G F hr hk r w   x0 t0 x1 x2 x0 t0 (0 : Int32) v_2 h
  · replace h := zif_t hc h
    refine z_iconst (y := (1 : Int32)) F dX10_man_14 rfl ?_
    refine z_goto F 19 dX10_man_15 rfl ?_
    refine z_ls [(0, zr G x0), (1, .int x1), (2, .int x2)] [0, 1, 2] rfl ?_
    exact jX10_man_19 x G F hr hk r w   x0 t0 x1 x2 x0 t0 (1 : Int32) v_2 h

theorem dX10_sides_0 : decode cX10_sides 0 = .ok (.aload_n 0, 1) := by decide +kernel
theorem dX10_sides_1 : decode cX10_sides 1 = .ok (.iconst 0, 1) := by decide +kernel
theorem dX10_sides_2 : decode cX10_sides 2 = .ok (.putfield 134, 3) := by decide +kernel
theorem dX10_sides_5 : decode cX10_sides 5 = .ok (.aload_n 0, 1) := by decide +kernel
theorem dX10_sides_6 : decode cX10_sides 6 = .ok (.aload_n 0, 1) := by decide +kernel
theorem dX10_sides_7 : decode cX10_sides 7 = .ok (.iload_n 1, 1) := by decide +kernel
theorem dX10_sides_8 : decode cX10_sides 8 = .ok (.invokevirtual 304, 3) := by decide +kernel
theorem dX10_sides_11 : decode cX10_sides 11 = .ok (.ifCond .ne 7, 3) := by decide +kernel
theorem dX10_sides_14 : decode cX10_sides 14 = .ok (.iconst 1, 1) := by decide +kernel
theorem dX10_sides_15 : decode cX10_sides 15 = .ok (.goto 4, 3) := by decide +kernel
theorem dX10_sides_18 : decode cX10_sides 18 = .ok (.iconst 0, 1) := by decide +kernel
theorem dX10_sides_19 : decode cX10_sides 19 = .ok (.iconst 1, 1) := by decide +kernel
theorem dX10_sides_20 : decode cX10_sides 20 = .ok (.iconst 0, 1) := by decide +kernel
theorem dX10_sides_21 : decode cX10_sides 21 = .ok (.invokevirtual 220, 3) := by decide +kernel
theorem dX10_sides_24 : decode cX10_sides 24 = .ok (.ifCond .eq 5, 3) := by decide +kernel
theorem dX10_sides_27 : decode cX10_sides 27 = .ok (.iconst 0, 1) := by decide +kernel
theorem dX10_sides_28 : decode cX10_sides 28 = .ok (.ireturn, 1) := by decide +kernel
theorem dX10_sides_29 : decode cX10_sides 29 = .ok (.aload_n 0, 1) := by decide +kernel
theorem dX10_sides_30 : decode cX10_sides 30 = .ok (.getfield 29, 3) := by decide +kernel
theorem dX10_sides_33 : decode cX10_sides 33 = .ok (.iload_n 1, 1) := by decide +kernel
theorem dX10_sides_34 : decode cX10_sides 34 = .ok (.iaload, 1) := by decide +kernel
theorem dX10_sides_35 : decode cX10_sides 35 = .ok (.ireturn, 1) := by decide +kernel
def fX10_sides (x0 : Nat) (x1 : Int32) (v : zV) : Option (Int32 × zV) :=
  zlet (zup v x0 0 (0 : Int32)) fun v_1 =>
  zbind (fX10_isQuestion x0 x1 v_1) fun r_3 v_2 =>
  if r_3 = (0 : Int32) then
    zbind (fX10_bad x0 (1 : Int32) (1 : Int32) (0 : Int32) v_2) fun r_7 v_6 =>
    if r_7 = (0 : Int32) then
      zix x1 (zlen (zrf x0 14)) <|
      some (v_6 (zrf x0 14) (x1).toNatClampNeg, v_6)
    else
      some ((0 : Int32), v_6)
  else
    zbind (fX10_bad x0 (0 : Int32) (1 : Int32) (0 : Int32) v_2) fun r_5 v_4 =>
    if r_5 = (0 : Int32) then
      zix x1 (zlen (zrf x0 14)) <|
      some (v_4 (zrf x0 14) (x1).toNatClampNeg, v_4)
    else
      some ((0 : Int32), v_4)
set_option maxRecDepth 4000 in
theorem kX10_sides (l : Launch) (G : zG) (x0 : Nat) (t0 : zty G x0 1 10) (x1 : Int32) (v : zV) (r : Int32) (w : zV) (h : fX10_sides x0 x1 v = some (r, w)) : zMet l yX10_sides cX10_sides 2 (Option.some FieldType.int) 3 123 0 0 [zr G x0, .int x1] G v (some (.int r)) w := by
  refine zM_of (own := RX10) (by decide) rfl (Nat.le_of_ble_eq_true rfl) (fun x hl F hr hk hcs => ?_)
  subst hl
  refine z_ls [(0, zr G x0), (1, .int x1)] [0, 1] rfl ?_
  unfold fX10_sides at h
  refine z_aload_n F dX10_sides_0 rfl 0 rfl ?_
  refine z_iconst (y := (0 : Int32)) F dX10_sides_1 rfl ?_
  refine zp_10_0 F t0 wF_X10_134 dX10_sides_2 ?_
  obtain ⟨v_1, ev_1, h⟩ := zlet_ex h
  refine z_heap ev_1 ?_
  refine z_aload_n F dX10_sides_5 rfl 0 rfl ?_
  refine z_aload_n F dX10_sides_6 rfl 0 rfl ?_
  refine z_iload_n F dX10_sides_7 rfl 1 rfl ?_
  obtain ⟨r_3, v_2, hq8, h⟩ := zbind_ex h
  refine z_callVi F [.int x1] [zr G x0] (kX10_isQuestion x.2.1 G x0 t0 x1 v_1 r_3 v_2 hq8) mI_X10_isQuestion (c := 10) rfl t0 wM_X10_304 mi_X10_isQuestion sl_X10_isQuestion dX10_sides_8 rfl ⟨Nat.le_of_ble_eq_true rfl, Nat.le_of_ble_eq_true rfl⟩ rfl (Nat.le_of_ble_eq_true rfl) ⟨Nat.zero_le _, Nat.zero_le _⟩ ?_
  refine z_if_ne F 18 dX10_sides_11 rfl (fun hc => ?_) (fun hc => ?_)
  · replace h := zif_f hc h
    refine z_iconst (y := (0 : Int32)) F dX10_sides_18 rfl ?_
    refine z_iconst (y := (1 : Int32)) F dX10_sides_19 rfl ?_
    refine z_iconst (y := (0 : Int32)) F dX10_sides_20 rfl ?_
    obtain ⟨r_5, v_4, hq21, h⟩ := zbind_ex h
    refine z_callVi F [.int (0 : Int32), .int (1 : Int32), .int (0 : Int32)] [] (kX10_bad x.2.1 G x0 t0 (0 : Int32) (1 : Int32) (0 : Int32) v_2 r_5 v_4 hq21) mI_X10_bad (c := 10) rfl t0 wM_X10_220 mi_X10_bad sl_X10_bad dX10_sides_21 rfl ⟨Nat.le_of_ble_eq_true rfl, Nat.le_of_ble_eq_true rfl⟩ rfl (Nat.le_of_ble_eq_true rfl) ⟨Nat.zero_le _, Nat.zero_le _⟩ ?_
    refine z_if_eq F 29 dX10_sides_24 rfl (fun hc => ?_) (fun hc => ?_)
    · replace h := zif_t hc h
      refine z_aload_n F dX10_sides_29 rfl 0 rfl ?_
      refine zg_10_14 F t0 wF_X10_29 dX10_sides_30 ?_
      refine z_iload_n F dX10_sides_33 rfl 1 rfl ?_
      obtain ⟨hi34, h⟩ := zix_ex h
      refine z_iald F (zt_f tc_10_14 t0) dX10_sides_34 hi34 ?_
      cases h
      exact z_reti F hr hk dX10_sides_35
    · replace h := zif_f hc h
      refine z_iconst (y := (0 : Int32)) F dX10_sides_27 rfl ?_
      cases h
      exact z_reti F hr hk dX10_sides_28
  · replace h := zif_t hc h
    refine z_iconst (y := (1 : Int32)) F dX10_sides_14 rfl ?_
    refine z_goto F 19 dX10_sides_15 rfl ?_
    refine z_iconst (y := (1 : Int32)) F dX10_sides_19 rfl ?_
    refine z_iconst (y := (0 : Int32)) F dX10_sides_20 rfl ?_
    obtain ⟨r_7, v_6, hq21, h⟩ := zbind_ex h
    refine z_callVi F [.int (1 : Int32), .int (1 : Int32), .int (0 : Int32)] [] (kX10_bad x.2.1 G x0 t0 (1 : Int32) (1 : Int32) (0 : Int32) v_2 r_7 v_6 hq21) mI_X10_bad (c := 10) rfl t0 wM_X10_220 mi_X10_bad sl_X10_bad dX10_sides_21 rfl ⟨Nat.le_of_ble_eq_true rfl, Nat.le_of_ble_eq_true rfl⟩ rfl (Nat.le_of_ble_eq_true rfl) ⟨Nat.zero_le _, Nat.zero_le _⟩ ?_
    refine z_if_eq F 29 dX10_sides_24 rfl (fun hc => ?_) (fun hc => ?_)
    · replace h := zif_t hc h
      refine z_aload_n F dX10_sides_29 rfl 0 rfl ?_
      refine zg_10_14 F t0 wF_X10_29 dX10_sides_30 ?_
      refine z_iload_n F dX10_sides_33 rfl 1 rfl ?_
      obtain ⟨hi34, h⟩ := zix_ex h
      refine z_iald F (zt_f tc_10_14 t0) dX10_sides_34 hi34 ?_
      cases h
      exact z_reti F hr hk dX10_sides_35
    · replace h := zif_f hc h
      refine z_iconst (y := (0 : Int32)) F dX10_sides_27 rfl ?_
      cases h
      exact z_reti F hr hk dX10_sides_28

theorem dX10_believes_0 : decode cX10_believes 0 = .ok (.aload_n 0, 1) := by decide +kernel
theorem dX10_believes_1 : decode cX10_believes 1 = .ok (.iconst 0, 1) := by decide +kernel
theorem dX10_believes_2 : decode cX10_believes 2 = .ok (.putfield 134, 3) := by decide +kernel
theorem dX10_believes_5 : decode cX10_believes 5 = .ok (.aload_n 0, 1) := by decide +kernel
theorem dX10_believes_6 : decode cX10_believes 6 = .ok (.aload_n 0, 1) := by decide +kernel
theorem dX10_believes_7 : decode cX10_believes 7 = .ok (.iload_n 1, 1) := by decide +kernel
theorem dX10_believes_8 : decode cX10_believes 8 = .ok (.invokevirtual 298, 3) := by decide +kernel
theorem dX10_believes_11 : decode cX10_believes 11 = .ok (.ifCond .eq 11, 3) := by decide +kernel
theorem dX10_believes_14 : decode cX10_believes 14 = .ok (.aload_n 0, 1) := by decide +kernel
theorem dX10_believes_15 : decode cX10_believes 15 = .ok (.iload_n 2, 1) := by decide +kernel
theorem dX10_believes_16 : decode cX10_believes 16 = .ok (.invokevirtual 304, 3) := by decide +kernel
theorem dX10_believes_19 : decode cX10_believes 19 = .ok (.ifCond .ne 7, 3) := by decide +kernel
theorem dX10_believes_22 : decode cX10_believes 22 = .ok (.iconst 1, 1) := by decide +kernel
theorem dX10_believes_23 : decode cX10_believes 23 = .ok (.goto 4, 3) := by decide +kernel
theorem dX10_believes_26 : decode cX10_believes 26 = .ok (.iconst 0, 1) := by decide +kernel
theorem dX10_believes_27 : decode cX10_believes 27 = .ok (.iconst 1, 1) := by decide +kernel
theorem dX10_believes_28 : decode cX10_believes 28 = .ok (.iconst 0, 1) := by decide +kernel
theorem dX10_believes_29 : decode cX10_believes 29 = .ok (.invokevirtual 220, 3) := by decide +kernel
theorem dX10_believes_32 : decode cX10_believes 32 = .ok (.ifCond .eq 5, 3) := by decide +kernel
theorem dX10_believes_35 : decode cX10_believes 35 = .ok (.iconst 0, 1) := by decide +kernel
theorem dX10_believes_36 : decode cX10_believes 36 = .ok (.ireturn, 1) := by decide +kernel
theorem dX10_believes_37 : decode cX10_believes 37 = .ok (.aload_n 0, 1) := by decide +kernel
theorem dX10_believes_38 : decode cX10_believes 38 = .ok (.getfield 49, 3) := by decide +kernel
theorem dX10_believes_41 : decode cX10_believes 41 = .ok (.iload_n 1, 1) := by decide +kernel
theorem dX10_believes_42 : decode cX10_believes 42 = .ok (.aaload, 1) := by decide +kernel
theorem dX10_believes_43 : decode cX10_believes 43 = .ok (.iload_n 2, 1) := by decide +kernel
theorem dX10_believes_44 : decode cX10_believes 44 = .ok (.iaload, 1) := by decide +kernel
theorem dX10_believes_45 : decode cX10_believes 45 = .ok (.ireturn, 1) := by decide +kernel
def fX10_believes_27  (x0 : Nat) (x1 : Int32) (x2 : Int32) (s0 : Nat) (s1 : Int32) (v : zV) : Option (Int32 × zV) :=
  zbind (fX10_bad s0 s1 (1 : Int32) (0 : Int32) v) fun r_2 v_1 =>
  if r_2 = (0 : Int32) then
    zix x1 (zlen (zrf x0 20)) <|
    zix x2 (zlen (zrf (zrf x0 20) (x1).toNatClampNeg)) <|
    some (v_1 (zrf (zrf x0 20) (x1).toNatClampNeg) (x2).toNatClampNeg, v_1)
  else
    some ((0 : Int32), v_1)
set_option maxRecDepth 4000 in
theorem jX10_believes_27 (x : zCx) (G : zG) (F : zF x G cX10_believes 3 RX10 3 123) (hr : x.2.2.2.2.2.2.2.2.1.sig.returnType = (Option.some FieldType.int)) (hk : x.2.2.2.2.2.2.2.2.1.locks = false) (r : Int32) (w : zV)  : ∀ (x0 : Nat) (t0 : zty G x0 1 10) (x1 : Int32) (x2 : Int32) (s0 : Nat) (ts0 : zty G s0 1 10) (s1 : Int32) (v : zV), fX10_believes_27 x0 x1 x2 s0 s1 v = some (r, w) → zJ x G 3 (zQ x G (some (.int r)) w 0 0) 0 0 27 [(0, zr G x0), (1, .int x1), (2, .int x2)] [.int s1, zr G s0] v := by
  intro x0 t0 x1 x2 s0 ts0 s1 v h
  unfold fX10_believes_27 at h
  refine z_iconst (y := (1 : Int32)) F dX10_believes_27 rfl ?_
  refine z_iconst (y := (0 : Int32)) F dX10_believes_28 rfl ?_
  obtain ⟨r_2, v_1, hq29, h⟩ := zbind_ex h
  refine z_callVi F [.int s1, .int (1 : Int32), .int (0 : Int32)] [] (kX10_bad x.2.1 G s0 ts0 s1 (1 : Int32) (0 : Int32) v r_2 v_1 hq29) mI_X10_bad (c := 10) rfl ts0 wM_X10_220 mi_X10_bad sl_X10_bad dX10_believes_29 rfl ⟨Nat.le_of_ble_eq_true rfl, Nat.le_of_ble_eq_true rfl⟩ rfl (Nat.le_of_ble_eq_true rfl) ⟨Nat.zero_le _, Nat.zero_le _⟩ ?_
  refine z_if_eq F 37 dX10_believes_32 rfl (fun hc => ?_) (fun hc => ?_)
  · replace h := zif_t hc h
    refine z_aload_n F dX10_believes_37 rfl 0 rfl ?_
    refine zg_10_20 F t0 wF_X10_49 dX10_believes_38 ?_
    refine z_iload_n F dX10_believes_41 rfl 1 rfl ?_
    obtain ⟨hi42, h⟩ := zix_ex h
    refine z_aald3 F (zt_f tc_10_20 t0) dX10_believes_42 hi42 ?_
    refine z_iload_n F dX10_believes_43 rfl 2 rfl ?_
    obtain ⟨hi44, h⟩ := zix_ex h
    refine z_iald F (zt_a tcA_3 (zt_f tc_10_20 t0) (zin_lt hi42)) dX10_believes_44 hi44 ?_
    cases h
    exact z_reti F hr hk dX10_believes_45
  · replace h := zif_f hc h
    refine z_iconst (y := (0 : Int32)) F dX10_believes_35 rfl ?_
    cases h
    exact z_reti F hr hk dX10_believes_36

def fX10_believes (x0 : Nat) (x1 : Int32) (x2 : Int32) (v : zV) : Option (Int32 × zV) :=
  zlet (zup v x0 0 (0 : Int32)) fun v_1 =>
  zbind (fX10_isMan x0 x1 v_1) fun r_3 v_2 =>
  if r_3 = (0 : Int32) then
    fX10_believes_27  x0 x1 x2 x0 (1 : Int32) v_2
  else
    zbind (fX10_isQuestion x0 x2 v_2) fun r_5 v_4 =>
    if r_5 = (0 : Int32) then
      fX10_believes_27  x0 x1 x2 x0 (1 : Int32) v_4
    else
      fX10_believes_27  x0 x1 x2 x0 (0 : Int32) v_4
set_option maxRecDepth 4000 in
theorem kX10_believes (l : Launch) (G : zG) (x0 : Nat) (t0 : zty G x0 1 10) (x1 : Int32) (x2 : Int32) (v : zV) (r : Int32) (w : zV) (h : fX10_believes x0 x1 x2 v = some (r, w)) : zMet l yX10_believes cX10_believes 3 (Option.some FieldType.int) 3 123 0 0 [zr G x0, .int x1, .int x2] G v (some (.int r)) w := by
  refine zM_of (own := RX10) (by decide) rfl (Nat.le_of_ble_eq_true rfl) (fun x hl F hr hk hcs => ?_)
  subst hl
  refine z_ls [(0, zr G x0), (1, .int x1), (2, .int x2)] [0, 1, 2] rfl ?_
  unfold fX10_believes at h
  refine z_aload_n F dX10_believes_0 rfl 0 rfl ?_
  refine z_iconst (y := (0 : Int32)) F dX10_believes_1 rfl ?_
  refine zp_10_0 F t0 wF_X10_134 dX10_believes_2 ?_
  obtain ⟨v_1, ev_1, h⟩ := zlet_ex h
  refine z_heap ev_1 ?_
  refine z_aload_n F dX10_believes_5 rfl 0 rfl ?_
  refine z_aload_n F dX10_believes_6 rfl 0 rfl ?_
  refine z_iload_n F dX10_believes_7 rfl 1 rfl ?_
  obtain ⟨r_3, v_2, hq8, h⟩ := zbind_ex h
  refine z_callVi F [.int x1] [zr G x0] (kX10_isMan x.2.1 G x0 t0 x1 v_1 r_3 v_2 hq8) mI_X10_isMan (c := 10) rfl t0 wM_X10_298 mi_X10_isMan sl_X10_isMan dX10_believes_8 rfl ⟨Nat.le_of_ble_eq_true rfl, Nat.le_of_ble_eq_true rfl⟩ rfl (Nat.le_of_ble_eq_true rfl) ⟨Nat.zero_le _, Nat.zero_le _⟩ ?_
  refine z_if_eq F 22 dX10_believes_11 rfl (fun hc => ?_) (fun hc => ?_)
  · replace h := zif_t hc h
    refine z_iconst (y := (1 : Int32)) F dX10_believes_22 rfl ?_
    refine z_goto F 27 dX10_believes_23 rfl ?_
    refine z_ls [(0, zr G x0), (1, .int x1), (2, .int x2)] [0, 1, 2] rfl ?_
    exact jX10_believes_27 x G F hr hk r w   x0 t0 x1 x2 x0 t0 (1 : Int32) v_2 h
  · replace h := zif_f hc h
    refine z_aload_n F dX10_believes_14 rfl 0 rfl ?_
    refine z_iload_n F dX10_believes_15 rfl 2 rfl ?_
    obtain ⟨r_5, v_4, hq16, h⟩ := zbind_ex h
    refine z_callVi F [.int x2] [zr G x0] (kX10_isQuestion x.2.1 G x0 t0 x2 v_2 r_5 v_4 hq16) mI_X10_isQuestion (c := 10) rfl t0 wM_X10_304 mi_X10_isQuestion sl_X10_isQuestion dX10_believes_16 rfl ⟨Nat.le_of_ble_eq_true rfl, Nat.le_of_ble_eq_true rfl⟩ rfl (Nat.le_of_ble_eq_true rfl) ⟨Nat.zero_le _, Nat.zero_le _⟩ ?_
    refine z_if_ne F 26 dX10_believes_19 rfl (fun hc => ?_) (fun hc => ?_)
    · replace h := zif_f hc h
      refine z_iconst (y := (0 : Int32)) F dX10_believes_26 rfl ?_
      refine z_ls [(0, zr G x0), (1, .int x1), (2, .int x2)] [0, 1, 2] rfl ?_
      exact jX10_believes_27 x G F hr hk r w   x0 t0 x1 x2 x0 t0 (0 : Int32) v_4 h
    · replace h := zif_t hc h
      refine z_iconst (y := (1 : Int32)) F dX10_believes_22 rfl ?_
      refine z_goto F 27 dX10_believes_23 rfl ?_
      refine z_ls [(0, zr G x0), (1, .int x1), (2, .int x2)] [0, 1, 2] rfl ?_
      exact jX10_believes_27 x G F hr hk r w   x0 t0 x1 x2 x0 t0 (1 : Int32) v_4 h

theorem dX10_chair_0 : decode cX10_chair 0 = .ok (.aload_n 0, 1) := by decide +kernel
theorem dX10_chair_1 : decode cX10_chair 1 = .ok (.iconst 0, 1) := by decide +kernel
theorem dX10_chair_2 : decode cX10_chair 2 = .ok (.putfield 134, 3) := by decide +kernel
theorem dX10_chair_5 : decode cX10_chair 5 = .ok (.aload_n 0, 1) := by decide +kernel
theorem dX10_chair_6 : decode cX10_chair 6 = .ok (.iload_n 1, 1) := by decide +kernel
theorem dX10_chair_7 : decode cX10_chair 7 = .ok (.iconst 0, 1) := by decide +kernel
theorem dX10_chair_8 : decode cX10_chair 8 = .ok (.bipush 11, 2) := by decide +kernel
theorem dX10_chair_10 : decode cX10_chair 10 = .ok (.invokestatic 168, 3) := by decide +kernel
theorem dX10_chair_13 : decode cX10_chair 13 = .ok (.ifCond .ne 7, 3) := by decide +kernel
theorem dX10_chair_16 : decode cX10_chair 16 = .ok (.iconst 1, 1) := by decide +kernel
theorem dX10_chair_17 : decode cX10_chair 17 = .ok (.goto 4, 3) := by decide +kernel
theorem dX10_chair_20 : decode cX10_chair 20 = .ok (.iconst 0, 1) := by decide +kernel
theorem dX10_chair_21 : decode cX10_chair 21 = .ok (.iconst 1, 1) := by decide +kernel
theorem dX10_chair_22 : decode cX10_chair 22 = .ok (.iconst 1, 1) := by decide +kernel
theorem dX10_chair_23 : decode cX10_chair 23 = .ok (.invokevirtual 220, 3) := by decide +kernel
theorem dX10_chair_26 : decode cX10_chair 26 = .ok (.ifCond .eq 5, 3) := by decide +kernel
theorem dX10_chair_29 : decode cX10_chair 29 = .ok (.iconst 0, 1) := by decide +kernel
theorem dX10_chair_30 : decode cX10_chair 30 = .ok (.ireturn, 1) := by decide +kernel
theorem dX10_chair_31 : decode cX10_chair 31 = .ok (.iload_n 1, 1) := by decide +kernel
theorem dX10_chair_32 : decode cX10_chair 32 = .ok (.aload_n 0, 1) := by decide +kernel
theorem dX10_chair_33 : decode cX10_chair 33 = .ok (.getfield 85, 3) := by decide +kernel
theorem dX10_chair_36 : decode cX10_chair 36 = .ok (.bipush 61, 2) := by decide +kernel
theorem dX10_chair_38 : decode cX10_chair 38 = .ok (.iaload, 1) := by decide +kernel
theorem dX10_chair_39 : decode cX10_chair 39 = .ok (.if_icmp .ge 15, 3) := by decide +kernel
theorem dX10_chair_42 : decode cX10_chair 42 = .ok (.aload_n 0, 1) := by decide +kernel
theorem dX10_chair_43 : decode cX10_chair 43 = .ok (.getfield 85, 3) := by decide +kernel
theorem dX10_chair_46 : decode cX10_chair 46 = .ok (.bipush 48, 2) := by decide +kernel
theorem dX10_chair_48 : decode cX10_chair 48 = .ok (.iload_n 1, 1) := by decide +kernel
theorem dX10_chair_49 : decode cX10_chair 49 = .ok (.iadd, 1) := by decide +kernel
theorem dX10_chair_50 : decode cX10_chair 50 = .ok (.iaload, 1) := by decide +kernel
theorem dX10_chair_51 : decode cX10_chair 51 = .ok (.goto 4, 3) := by decide +kernel
theorem dX10_chair_54 : decode cX10_chair 54 = .ok (.iconst (-1), 1) := by decide +kernel
theorem dX10_chair_55 : decode cX10_chair 55 = .ok (.ireturn, 1) := by decide +kernel
def fX10_chair_21  (x0 : Nat) (x1 : Int32) (s0 : Nat) (s1 : Int32) (v : zV) : Option (Int32 × zV) :=
  zbind (fX10_bad s0 s1 (1 : Int32) (1 : Int32) v) fun r_2 v_1 =>
  if r_2 = (0 : Int32) then
    zix (61 : Int32) (zlen (zrf x0 35)) <|
    if (v_1 (zrf x0 35) ((61 : Int32)).toNatClampNeg) ≤ x1 then
      some ((-1 : Int32), v_1)
    else
      zix ((48 : Int32) + x1) (zlen (zrf x0 35)) <|
      some (v_1 (zrf x0 35) ((48 : Int32) + x1).toNatClampNeg, v_1)
  else
    some ((0 : Int32), v_1)
set_option maxRecDepth 4000 in
theorem jX10_chair_21 (x : zCx) (G : zG) (F : zF x G cX10_chair 2 RX10 2 103) (hr : x.2.2.2.2.2.2.2.2.1.sig.returnType = (Option.some FieldType.int)) (hk : x.2.2.2.2.2.2.2.2.1.locks = false) (r : Int32) (w : zV)  : ∀ (x0 : Nat) (t0 : zty G x0 1 10) (x1 : Int32) (s0 : Nat) (ts0 : zty G s0 1 10) (s1 : Int32) (v : zV), fX10_chair_21 x0 x1 s0 s1 v = some (r, w) → zJ x G 2 (zQ x G (some (.int r)) w 0 0) 0 0 21 [(0, zr G x0), (1, .int x1)] [.int s1, zr G s0] v := by
  intro x0 t0 x1 s0 ts0 s1 v h
  unfold fX10_chair_21 at h
  refine z_iconst (y := (1 : Int32)) F dX10_chair_21 rfl ?_
  refine z_iconst (y := (1 : Int32)) F dX10_chair_22 rfl ?_
  obtain ⟨r_2, v_1, hq23, h⟩ := zbind_ex h
  refine z_callVi F [.int s1, .int (1 : Int32), .int (1 : Int32)] [] (kX10_bad x.2.1 G s0 ts0 s1 (1 : Int32) (1 : Int32) v r_2 v_1 hq23) mI_X10_bad (c := 10) rfl ts0 wM_X10_220 mi_X10_bad sl_X10_bad dX10_chair_23 rfl ⟨Nat.le_of_ble_eq_true rfl, Nat.le_of_ble_eq_true rfl⟩ rfl (Nat.le_of_ble_eq_true rfl) ⟨Nat.zero_le _, Nat.zero_le _⟩ ?_
  refine z_if_eq F 31 dX10_chair_26 rfl (fun hc => ?_) (fun hc => ?_)
  · replace h := zif_t hc h
    refine z_iload_n F dX10_chair_31 rfl 1 rfl ?_
    refine z_aload_n F dX10_chair_32 rfl 0 rfl ?_
    refine zg_10_35 F t0 wF_X10_85 dX10_chair_33 ?_
    refine z_bipush (y := (61 : Int32)) F dX10_chair_36 rfl ?_
    obtain ⟨hi38, h⟩ := zix_ex h
    refine z_iald F (zt_f tc_10_35 t0) dX10_chair_38 hi38 ?_
    refine z_icmp_ge F 54 dX10_chair_39 rfl (fun hc => ?_) (fun hc => ?_)
    · replace h := zif_t hc h
      refine z_iconst (y := (-1 : Int32)) F dX10_chair_54 rfl ?_
      cases h
      exact z_reti F hr hk dX10_chair_55
    · replace h := zif_f hc h
      refine z_aload_n F dX10_chair_42 rfl 0 rfl ?_
      refine zg_10_35 F t0 wF_X10_85 dX10_chair_43 ?_
      refine z_bipush (y := (48 : Int32)) F dX10_chair_46 rfl ?_
      refine z_iload_n F dX10_chair_48 rfl 1 rfl ?_
      refine z_iadd F dX10_chair_49 ?_
      obtain ⟨hi50, h⟩ := zix_ex h
      refine z_iald F (zt_f tc_10_35 t0) dX10_chair_50 hi50 ?_
      refine z_goto F 55 dX10_chair_51 rfl ?_
      cases h
      exact z_reti F hr hk dX10_chair_55
  · replace h := zif_f hc h
    refine z_iconst (y := (0 : Int32)) F dX10_chair_29 rfl ?_
    cases h
    exact z_reti F hr hk dX10_chair_30

def fX10_chair (x0 : Nat) (x1 : Int32) (v : zV) : Option (Int32 × zV) :=
  zlet (zup v x0 0 (0 : Int32)) fun v_1 =>
  zbind (fX10_in x1 (0 : Int32) (11 : Int32) v_1) fun r_3 v_2 =>
  if r_3 = (0 : Int32) then
    fX10_chair_21  x0 x1 x0 (1 : Int32) v_2
  else
    fX10_chair_21  x0 x1 x0 (0 : Int32) v_2
set_option maxRecDepth 4000 in
theorem kX10_chair (l : Launch) (G : zG) (x0 : Nat) (t0 : zty G x0 1 10) (x1 : Int32) (v : zV) (r : Int32) (w : zV) (h : fX10_chair x0 x1 v = some (r, w)) : zMet l yX10_chair cX10_chair 2 (Option.some FieldType.int) 2 103 0 0 [zr G x0, .int x1] G v (some (.int r)) w := by
  refine zM_of (own := RX10) (by decide) rfl (Nat.le_of_ble_eq_true rfl) (fun x hl F hr hk hcs => ?_)
  subst hl
  refine z_ls [(0, zr G x0), (1, .int x1)] [0, 1] rfl ?_
  unfold fX10_chair at h
  refine z_aload_n F dX10_chair_0 rfl 0 rfl ?_
  refine z_iconst (y := (0 : Int32)) F dX10_chair_1 rfl ?_
  refine zp_10_0 F t0 wF_X10_134 dX10_chair_2 ?_
  obtain ⟨v_1, ev_1, h⟩ := zlet_ex h
  refine z_heap ev_1 ?_
  refine z_aload_n F dX10_chair_5 rfl 0 rfl ?_
  refine z_iload_n F dX10_chair_6 rfl 1 rfl ?_
  refine z_iconst (y := (0 : Int32)) F dX10_chair_7 rfl ?_
  refine z_bipush (y := (11 : Int32)) F dX10_chair_8 rfl ?_
  obtain ⟨r_3, v_2, hq10, h⟩ := zbind_ex h
  refine z_callSi F [.int x1, .int (0 : Int32), .int (11 : Int32)] [zr G x0] (kX10_in x.2.1 G x1 (0 : Int32) (11 : Int32) v_1 r_3 v_2 hq10) mI_X10_in wM_X10_168 ms_X10_in dX10_chair_10 rfl ⟨Nat.le_of_ble_eq_true rfl, Nat.le_of_ble_eq_true rfl⟩ rfl (Nat.le_of_ble_eq_true rfl) ⟨Nat.zero_le _, Nat.zero_le _⟩ ?_
  refine z_if_ne F 20 dX10_chair_13 rfl (fun hc => ?_) (fun hc => ?_)
  · replace h := zif_f hc h
    refine z_iconst (y := (0 : Int32)) F dX10_chair_20 rfl ?_
    refine z_ls [(0, zr G x0), (1, .int x1)] [0, 1] rfl ?_
    exact jX10_chair_21 x G F hr hk r w   x0 t0 x1 x0 t0 (0 : Int32) v_2 h
  · replace h := zif_t hc h
    refine z_iconst (y := (1 : Int32)) F dX10_chair_16 rfl ?_
    refine z_goto F 21 dX10_chair_17 rfl ?_
    refine z_ls [(0, zr G x0), (1, .int x1)] [0, 1] rfl ?_
    exact jX10_chair_21 x G F hr hk r w   x0 t0 x1 x0 t0 (1 : Int32) v_2 h

theorem dX10_differsOf_0 : decode cX10_differsOf 0 = .ok (.iconst 0, 1) := by decide +kernel
theorem dX10_differsOf_1 : decode cX10_differsOf 1 = .ok (.istore_n 3, 1) := by decide +kernel
theorem dX10_differsOf_2 : decode cX10_differsOf 2 = .ok (.iconst 0, 1) := by decide +kernel
theorem dX10_differsOf_3 : decode cX10_differsOf 3 = .ok (.istore 4, 2) := by decide +kernel
theorem dX10_differsOf_5 : decode cX10_differsOf 5 = .ok (.iload 4, 2) := by decide +kernel
theorem dX10_differsOf_7 : decode cX10_differsOf 7 = .ok (.aload_n 0, 1) := by decide +kernel
theorem dX10_differsOf_8 : decode cX10_differsOf 8 = .ok (.getfield 23, 3) := by decide +kernel
theorem dX10_differsOf_11 : decode cX10_differsOf 11 = .ok (.iconst 0, 1) := by decide +kernel
theorem dX10_differsOf_12 : decode cX10_differsOf 12 = .ok (.iaload, 1) := by decide +kernel
theorem dX10_differsOf_13 : decode cX10_differsOf 13 = .ok (.if_icmp .ge 38, 3) := by decide +kernel
theorem dX10_differsOf_16 : decode cX10_differsOf 16 = .ok (.iload_n 3, 1) := by decide +kernel
theorem dX10_differsOf_17 : decode cX10_differsOf 17 = .ok (.aload_n 0, 1) := by decide +kernel
theorem dX10_differsOf_18 : decode cX10_differsOf 18 = .ok (.getfield 49, 3) := by decide +kernel
theorem dX10_differsOf_21 : decode cX10_differsOf 21 = .ok (.iload_n 1, 1) := by decide +kernel
theorem dX10_differsOf_22 : decode cX10_differsOf 22 = .ok (.aaload, 1) := by decide +kernel
theorem dX10_differsOf_23 : decode cX10_differsOf 23 = .ok (.iload 4, 2) := by decide +kernel
theorem dX10_differsOf_25 : decode cX10_differsOf 25 = .ok (.iaload, 1) := by decide +kernel
theorem dX10_differsOf_26 : decode cX10_differsOf 26 = .ok (.aload_n 0, 1) := by decide +kernel
theorem dX10_differsOf_27 : decode cX10_differsOf 27 = .ok (.getfield 49, 3) := by decide +kernel
theorem dX10_differsOf_30 : decode cX10_differsOf 30 = .ok (.iload_n 2, 1) := by decide +kernel
theorem dX10_differsOf_31 : decode cX10_differsOf 31 = .ok (.aaload, 1) := by decide +kernel
theorem dX10_differsOf_32 : decode cX10_differsOf 32 = .ok (.iload 4, 2) := by decide +kernel
theorem dX10_differsOf_34 : decode cX10_differsOf 34 = .ok (.iaload, 1) := by decide +kernel
theorem dX10_differsOf_35 : decode cX10_differsOf 35 = .ok (.if_icmp .eq 7, 3) := by decide +kernel
theorem dX10_differsOf_38 : decode cX10_differsOf 38 = .ok (.iconst 1, 1) := by decide +kernel
theorem dX10_differsOf_39 : decode cX10_differsOf 39 = .ok (.goto 4, 3) := by decide +kernel
theorem dX10_differsOf_42 : decode cX10_differsOf 42 = .ok (.iconst 0, 1) := by decide +kernel
theorem dX10_differsOf_43 : decode cX10_differsOf 43 = .ok (.iadd, 1) := by decide +kernel
theorem dX10_differsOf_44 : decode cX10_differsOf 44 = .ok (.istore_n 3, 1) := by decide +kernel
theorem dX10_differsOf_45 : decode cX10_differsOf 45 = .ok (.iinc 4 1, 3) := by decide +kernel
theorem dX10_differsOf_48 : decode cX10_differsOf 48 = .ok (.goto (-43), 3) := by decide +kernel
theorem dX10_differsOf_51 : decode cX10_differsOf 51 = .ok (.iload_n 3, 1) := by decide +kernel
theorem dX10_differsOf_52 : decode cX10_differsOf 52 = .ok (.ireturn, 1) := by decide +kernel
def fX10_differsOf_5  : Nat → Nat → Int32 → Int32 → Int32 → Int32 → zV → Option (Int32 × zV)
  | 0 => fun _ _ _ _ _ _ => none
  | n + 1 => fun x0 x1 x2 x3 x4 v =>
    zix (0 : Int32) (zlen (zrf x0 12)) <|
    if (v (zrf x0 12) ((0 : Int32)).toNatClampNeg) ≤ x4 then
      some (x3, v)
    else
      zix x1 (zlen (zrf x0 20)) <|
      zix x4 (zlen (zrf (zrf x0 20) (x1).toNatClampNeg)) <|
      zix x2 (zlen (zrf x0 20)) <|
      zix x4 (zlen (zrf (zrf x0 20) (x2).toNatClampNeg)) <|
      if (v (zrf (zrf x0 20) (x1).toNatClampNeg) (x4).toNatClampNeg) = (v (zrf (zrf x0 20) (x2).toNatClampNeg) (x4).toNatClampNeg) then
        (fX10_differsOf_5 n) x0 x1 x2 (x3 + (0 : Int32)) (x4 + (1 : Int32)) v
      else
        (fX10_differsOf_5 n) x0 x1 x2 (x3 + (1 : Int32)) (x4 + (1 : Int32)) v
set_option maxRecDepth 4000 in
theorem jX10_differsOf_5 (x : zCx) (G : zG) (F : zF x G cX10_differsOf 5 RX10 1 80) (hr : x.2.2.2.2.2.2.2.2.1.sig.returnType = (Option.some FieldType.int)) (hk : x.2.2.2.2.2.2.2.2.1.locks = false) (r : Int32) (w : zV)  : ∀ (n : Nat) (x0 : Nat) (t0 : zty G x0 1 10) (x1 : Int32) (x2 : Int32) (x3 : Int32) (x4 : Int32) (v : zV), fX10_differsOf_5 n x0 x1 x2 x3 x4 v = some (r, w) → zJ x G 5 (zQ x G (some (.int r)) w 0 0) 0 0 5 [(0, zr G x0), (1, .int x1), (2, .int x2), (3, .int x3), (4, .int x4)] [] v := by
  intro n
  induction n with
  | zero => intro x0 t0 x1 x2 x3 x4 v h; exact absurd h (by intro q; cases q)
  | succ n ih =>
    intro x0 t0 x1 x2 x3 x4 v h
    rw [fX10_differsOf_5] at h
    dsimp only at h
    refine z_iload F dX10_differsOf_5 4 rfl ?_
    refine z_aload_n F dX10_differsOf_7 rfl 0 rfl ?_
    refine zg_10_12 F t0 wF_X10_23 dX10_differsOf_8 ?_
    refine z_iconst (y := (0 : Int32)) F dX10_differsOf_11 rfl ?_
    obtain ⟨hi12, h⟩ := zix_ex h
    refine z_iald F (zt_f tc_10_12 t0) dX10_differsOf_12 hi12 ?_
    refine z_icmp_ge F 51 dX10_differsOf_13 rfl (fun hc => ?_) (fun hc => ?_)
    · replace h := zif_t hc h
      refine z_iload_n F dX10_differsOf_51 rfl 3 rfl ?_
      cases h
      exact z_reti F hr hk dX10_differsOf_52
    · replace h := zif_f hc h
      refine z_iload_n F dX10_differsOf_16 rfl 3 rfl ?_
      refine z_aload_n F dX10_differsOf_17 rfl 0 rfl ?_
      refine zg_10_20 F t0 wF_X10_49 dX10_differsOf_18 ?_
      refine z_iload_n F dX10_differsOf_21 rfl 1 rfl ?_
      obtain ⟨hi22, h⟩ := zix_ex h
      refine z_aald3 F (zt_f tc_10_20 t0) dX10_differsOf_22 hi22 ?_
      refine z_iload F dX10_differsOf_23 4 rfl ?_
      obtain ⟨hi25, h⟩ := zix_ex h
      refine z_iald F (zt_a tcA_3 (zt_f tc_10_20 t0) (zin_lt hi22)) dX10_differsOf_25 hi25 ?_
      refine z_aload_n F dX10_differsOf_26 rfl 0 rfl ?_
      refine zg_10_20 F t0 wF_X10_49 dX10_differsOf_27 ?_
      refine z_iload_n F dX10_differsOf_30 rfl 2 rfl ?_
      obtain ⟨hi31, h⟩ := zix_ex h
      refine z_aald3 F (zt_f tc_10_20 t0) dX10_differsOf_31 hi31 ?_
      refine z_iload F dX10_differsOf_32 4 rfl ?_
      obtain ⟨hi34, h⟩ := zix_ex h
      refine z_iald F (zt_a tcA_3 (zt_f tc_10_20 t0) (zin_lt hi31)) dX10_differsOf_34 hi34 ?_
      refine z_icmp_eq F 42 dX10_differsOf_35 rfl (fun hc => ?_) (fun hc => ?_)
      · replace h := zif_t hc h
        refine z_iconst (y := (0 : Int32)) F dX10_differsOf_42 rfl ?_
        refine z_iadd F dX10_differsOf_43 ?_
        refine z_istore_n F [(3, .int (x3 + (0 : Int32))), (0, zr G x0), (1, .int x1), (2, .int x2), (4, .int x4)] dX10_differsOf_44 rfl (Nat.le_of_ble_eq_true rfl) rfl ?_
        refine z_iinc F [(4, .int (x4 + (1 : Int32))), (3, .int (x3 + (0 : Int32))), (0, zr G x0), (1, .int x1), (2, .int x2)] dX10_differsOf_45 4 rfl rfl (Nat.le_of_ble_eq_true rfl) rfl ?_
        refine z_goto F 5 dX10_differsOf_48 rfl ?_
        refine z_ls [(0, zr G x0), (1, .int x1), (2, .int x2), (3, .int (x3 + (0 : Int32))), (4, .int (x4 + (1 : Int32)))] [2, 3, 4, 1, 0] rfl ?_
        exact ih x0 t0 x1 x2 (x3 + (0 : Int32)) (x4 + (1 : Int32)) v h
      · replace h := zif_f hc h
        refine z_iconst (y := (1 : Int32)) F dX10_differsOf_38 rfl ?_
        refine z_goto F 43 dX10_differsOf_39 rfl ?_
        refine z_iadd F dX10_differsOf_43 ?_
        refine z_istore_n F [(3, .int (x3 + (1 : Int32))), (0, zr G x0), (1, .int x1), (2, .int x2), (4, .int x4)] dX10_differsOf_44 rfl (Nat.le_of_ble_eq_true rfl) rfl ?_
        refine z_iinc F [(4, .int (x4 + (1 : Int32))), (3, .int (x3 + (1 : Int32))), (0, zr G x0), (1, .int x1), (2, .int x2)] dX10_differsOf_45 4 rfl rfl (Nat.le_of_ble_eq_true rfl) rfl ?_
        refine z_goto F 5 dX10_differsOf_48 rfl ?_
        refine z_ls [(0, zr G x0), (1, .int x1), (2, .int x2), (3, .int (x3 + (1 : Int32))), (4, .int (x4 + (1 : Int32)))] [2, 3, 4, 1, 0] rfl ?_
        exact ih x0 t0 x1 x2 (x3 + (1 : Int32)) (x4 + (1 : Int32)) v h

def fX10_differsOf (x0 : Nat) (x1 : Int32) (x2 : Int32) (v : zV) : Option (Int32 × zV) :=
  fX10_differsOf_5  zFU x0 x1 x2 (0 : Int32) (0 : Int32) v
set_option maxRecDepth 4000 in
theorem kX10_differsOf (l : Launch) (G : zG) (x0 : Nat) (t0 : zty G x0 1 10) (x1 : Int32) (x2 : Int32) (v : zV) (r : Int32) (w : zV) (h : fX10_differsOf x0 x1 x2 v = some (r, w)) : zMet l yX10_differsOf cX10_differsOf 5 (Option.some FieldType.int) 1 80 0 0 [zr G x0, .int x1, .int x2] G v (some (.int r)) w := by
  refine zM_of (own := RX10) (by decide) rfl (Nat.le_of_ble_eq_true rfl) (fun x hl F hr hk hcs => ?_)
  subst hl
  refine z_ls [(0, zr G x0), (1, .int x1), (2, .int x2)] [0, 1, 2] rfl ?_
  unfold fX10_differsOf at h
  refine z_iconst (y := (0 : Int32)) F dX10_differsOf_0 rfl ?_
  refine z_istore_n F [(3, .int (0 : Int32)), (0, zr G x0), (1, .int x1), (2, .int x2)] dX10_differsOf_1 rfl (Nat.le_of_ble_eq_true rfl) rfl ?_
  refine z_iconst (y := (0 : Int32)) F dX10_differsOf_2 rfl ?_
  refine z_istore (n := 0) F [(4, .int (0 : Int32)), (3, .int (0 : Int32)), (0, zr G x0), (1, .int x1), (2, .int x2)] dX10_differsOf_3 (Nat.le_of_ble_eq_true rfl) rfl ?_
  refine z_ls [(0, zr G x0), (1, .int x1), (2, .int x2), (3, .int (0 : Int32)), (4, .int (0 : Int32))] [2, 3, 4, 1, 0] rfl ?_
  exact jX10_differsOf_5 x G F hr hk r w   zFU x0 t0 x1 x2 (0 : Int32) (0 : Int32) v h

theorem dX10_differs_0 : decode cX10_differs 0 = .ok (.aload_n 0, 1) := by decide +kernel
theorem dX10_differs_1 : decode cX10_differs 1 = .ok (.iconst 0, 1) := by decide +kernel
theorem dX10_differs_2 : decode cX10_differs 2 = .ok (.putfield 134, 3) := by decide +kernel
theorem dX10_differs_5 : decode cX10_differs 5 = .ok (.aload_n 0, 1) := by decide +kernel
theorem dX10_differs_6 : decode cX10_differs 6 = .ok (.aload_n 0, 1) := by decide +kernel
theorem dX10_differs_7 : decode cX10_differs 7 = .ok (.iload_n 1, 1) := by decide +kernel
theorem dX10_differs_8 : decode cX10_differs 8 = .ok (.invokevirtual 298, 3) := by decide +kernel
theorem dX10_differs_11 : decode cX10_differs 11 = .ok (.ifCond .eq 11, 3) := by decide +kernel
theorem dX10_differs_14 : decode cX10_differs 14 = .ok (.aload_n 0, 1) := by decide +kernel
theorem dX10_differs_15 : decode cX10_differs 15 = .ok (.iload_n 2, 1) := by decide +kernel
theorem dX10_differs_16 : decode cX10_differs 16 = .ok (.invokevirtual 298, 3) := by decide +kernel
theorem dX10_differs_19 : decode cX10_differs 19 = .ok (.ifCond .ne 7, 3) := by decide +kernel
theorem dX10_differs_22 : decode cX10_differs 22 = .ok (.iconst 1, 1) := by decide +kernel
theorem dX10_differs_23 : decode cX10_differs 23 = .ok (.goto 4, 3) := by decide +kernel
theorem dX10_differs_26 : decode cX10_differs 26 = .ok (.iconst 0, 1) := by decide +kernel
theorem dX10_differs_27 : decode cX10_differs 27 = .ok (.iconst 1, 1) := by decide +kernel
theorem dX10_differs_28 : decode cX10_differs 28 = .ok (.iconst 0, 1) := by decide +kernel
theorem dX10_differs_29 : decode cX10_differs 29 = .ok (.invokevirtual 220, 3) := by decide +kernel
theorem dX10_differs_32 : decode cX10_differs 32 = .ok (.ifCond .eq 5, 3) := by decide +kernel
theorem dX10_differs_35 : decode cX10_differs 35 = .ok (.iconst 0, 1) := by decide +kernel
theorem dX10_differs_36 : decode cX10_differs 36 = .ok (.ireturn, 1) := by decide +kernel
theorem dX10_differs_37 : decode cX10_differs 37 = .ok (.aload_n 0, 1) := by decide +kernel
theorem dX10_differs_38 : decode cX10_differs 38 = .ok (.iload_n 1, 1) := by decide +kernel
theorem dX10_differs_39 : decode cX10_differs 39 = .ok (.iload_n 2, 1) := by decide +kernel
theorem dX10_differs_40 : decode cX10_differs 40 = .ok (.invokevirtual 307, 3) := by decide +kernel
theorem dX10_differs_43 : decode cX10_differs 43 = .ok (.ireturn, 1) := by decide +kernel
def fX10_differs_27  (x0 : Nat) (x1 : Int32) (x2 : Int32) (s0 : Nat) (s1 : Int32) (v : zV) : Option (Int32 × zV) :=
  zbind (fX10_bad s0 s1 (1 : Int32) (0 : Int32) v) fun r_2 v_1 =>
  if r_2 = (0 : Int32) then
    zbind (fX10_differsOf x0 x1 x2 v_1) fun r_4 v_3 =>
    some (r_4, v_3)
  else
    some ((0 : Int32), v_1)
set_option maxRecDepth 4000 in
theorem jX10_differs_27 (x : zCx) (G : zG) (F : zF x G cX10_differs 3 RX10 3 123) (hr : x.2.2.2.2.2.2.2.2.1.sig.returnType = (Option.some FieldType.int)) (hk : x.2.2.2.2.2.2.2.2.1.locks = false) (r : Int32) (w : zV)  : ∀ (x0 : Nat) (t0 : zty G x0 1 10) (x1 : Int32) (x2 : Int32) (s0 : Nat) (ts0 : zty G s0 1 10) (s1 : Int32) (v : zV), fX10_differs_27 x0 x1 x2 s0 s1 v = some (r, w) → zJ x G 3 (zQ x G (some (.int r)) w 0 0) 0 0 27 [(0, zr G x0), (1, .int x1), (2, .int x2)] [.int s1, zr G s0] v := by
  intro x0 t0 x1 x2 s0 ts0 s1 v h
  unfold fX10_differs_27 at h
  refine z_iconst (y := (1 : Int32)) F dX10_differs_27 rfl ?_
  refine z_iconst (y := (0 : Int32)) F dX10_differs_28 rfl ?_
  obtain ⟨r_2, v_1, hq29, h⟩ := zbind_ex h
  refine z_callVi F [.int s1, .int (1 : Int32), .int (0 : Int32)] [] (kX10_bad x.2.1 G s0 ts0 s1 (1 : Int32) (0 : Int32) v r_2 v_1 hq29) mI_X10_bad (c := 10) rfl ts0 wM_X10_220 mi_X10_bad sl_X10_bad dX10_differs_29 rfl ⟨Nat.le_of_ble_eq_true rfl, Nat.le_of_ble_eq_true rfl⟩ rfl (Nat.le_of_ble_eq_true rfl) ⟨Nat.zero_le _, Nat.zero_le _⟩ ?_
  refine z_if_eq F 37 dX10_differs_32 rfl (fun hc => ?_) (fun hc => ?_)
  · replace h := zif_t hc h
    refine z_aload_n F dX10_differs_37 rfl 0 rfl ?_
    refine z_iload_n F dX10_differs_38 rfl 1 rfl ?_
    refine z_iload_n F dX10_differs_39 rfl 2 rfl ?_
    obtain ⟨r_4, v_3, hq40, h⟩ := zbind_ex h
    refine z_callVi F [.int x1, .int x2] [] (kX10_differsOf x.2.1 G x0 t0 x1 x2 v_1 r_4 v_3 hq40) mI_X10_differsOf (c := 10) rfl t0 wM_X10_307 mi_X10_differsOf sl_X10_differsOf dX10_differs_40 rfl ⟨Nat.le_of_ble_eq_true rfl, Nat.le_of_ble_eq_true rfl⟩ rfl (Nat.le_of_ble_eq_true rfl) ⟨Nat.zero_le _, Nat.zero_le _⟩ ?_
    cases h
    exact z_reti F hr hk dX10_differs_43
  · replace h := zif_f hc h
    refine z_iconst (y := (0 : Int32)) F dX10_differs_35 rfl ?_
    cases h
    exact z_reti F hr hk dX10_differs_36

def fX10_differs (x0 : Nat) (x1 : Int32) (x2 : Int32) (v : zV) : Option (Int32 × zV) :=
  zlet (zup v x0 0 (0 : Int32)) fun v_1 =>
  zbind (fX10_isMan x0 x1 v_1) fun r_3 v_2 =>
  if r_3 = (0 : Int32) then
    fX10_differs_27  x0 x1 x2 x0 (1 : Int32) v_2
  else
    zbind (fX10_isMan x0 x2 v_2) fun r_5 v_4 =>
    if r_5 = (0 : Int32) then
      fX10_differs_27  x0 x1 x2 x0 (1 : Int32) v_4
    else
      fX10_differs_27  x0 x1 x2 x0 (0 : Int32) v_4
set_option maxRecDepth 4000 in
theorem kX10_differs (l : Launch) (G : zG) (x0 : Nat) (t0 : zty G x0 1 10) (x1 : Int32) (x2 : Int32) (v : zV) (r : Int32) (w : zV) (h : fX10_differs x0 x1 x2 v = some (r, w)) : zMet l yX10_differs cX10_differs 3 (Option.some FieldType.int) 3 123 0 0 [zr G x0, .int x1, .int x2] G v (some (.int r)) w := by
  refine zM_of (own := RX10) (by decide) rfl (Nat.le_of_ble_eq_true rfl) (fun x hl F hr hk hcs => ?_)
  subst hl
  refine z_ls [(0, zr G x0), (1, .int x1), (2, .int x2)] [0, 1, 2] rfl ?_
  unfold fX10_differs at h
  refine z_aload_n F dX10_differs_0 rfl 0 rfl ?_
  refine z_iconst (y := (0 : Int32)) F dX10_differs_1 rfl ?_
  refine zp_10_0 F t0 wF_X10_134 dX10_differs_2 ?_
  obtain ⟨v_1, ev_1, h⟩ := zlet_ex h
  refine z_heap ev_1 ?_
  refine z_aload_n F dX10_differs_5 rfl 0 rfl ?_
  refine z_aload_n F dX10_differs_6 rfl 0 rfl ?_
  refine z_iload_n F dX10_differs_7 rfl 1 rfl ?_
  obtain ⟨r_3, v_2, hq8, h⟩ := zbind_ex h
  refine z_callVi F [.int x1] [zr G x0] (kX10_isMan x.2.1 G x0 t0 x1 v_1 r_3 v_2 hq8) mI_X10_isMan (c := 10) rfl t0 wM_X10_298 mi_X10_isMan sl_X10_isMan dX10_differs_8 rfl ⟨Nat.le_of_ble_eq_true rfl, Nat.le_of_ble_eq_true rfl⟩ rfl (Nat.le_of_ble_eq_true rfl) ⟨Nat.zero_le _, Nat.zero_le _⟩ ?_
  refine z_if_eq F 22 dX10_differs_11 rfl (fun hc => ?_) (fun hc => ?_)
  · replace h := zif_t hc h
    refine z_iconst (y := (1 : Int32)) F dX10_differs_22 rfl ?_
    refine z_goto F 27 dX10_differs_23 rfl ?_
    refine z_ls [(0, zr G x0), (1, .int x1), (2, .int x2)] [0, 1, 2] rfl ?_
    exact jX10_differs_27 x G F hr hk r w   x0 t0 x1 x2 x0 t0 (1 : Int32) v_2 h
  · replace h := zif_f hc h
    refine z_aload_n F dX10_differs_14 rfl 0 rfl ?_
    refine z_iload_n F dX10_differs_15 rfl 2 rfl ?_
    obtain ⟨r_5, v_4, hq16, h⟩ := zbind_ex h
    refine z_callVi F [.int x2] [zr G x0] (kX10_isMan x.2.1 G x0 t0 x2 v_2 r_5 v_4 hq16) mI_X10_isMan (c := 10) rfl t0 wM_X10_298 mi_X10_isMan sl_X10_isMan dX10_differs_16 rfl ⟨Nat.le_of_ble_eq_true rfl, Nat.le_of_ble_eq_true rfl⟩ rfl (Nat.le_of_ble_eq_true rfl) ⟨Nat.zero_le _, Nat.zero_le _⟩ ?_
    refine z_if_ne F 26 dX10_differs_19 rfl (fun hc => ?_) (fun hc => ?_)
    · replace h := zif_f hc h
      refine z_iconst (y := (0 : Int32)) F dX10_differs_26 rfl ?_
      refine z_ls [(0, zr G x0), (1, .int x1), (2, .int x2)] [0, 1, 2] rfl ?_
      exact jX10_differs_27 x G F hr hk r w   x0 t0 x1 x2 x0 t0 (0 : Int32) v_4 h
    · replace h := zif_t hc h
      refine z_iconst (y := (1 : Int32)) F dX10_differs_22 rfl ?_
      refine z_goto F 27 dX10_differs_23 rfl ?_
      refine z_ls [(0, zr G x0), (1, .int x1), (2, .int x2)] [0, 1, 2] rfl ?_
      exact jX10_differs_27 x G F hr hk r w   x0 t0 x1 x2 x0 t0 (1 : Int32) v_4 h

theorem dX10_praiseOf_0 : decode cX10_praiseOf 0 = .ok (.iconst 0, 1) := by decide +kernel
theorem dX10_praiseOf_1 : decode cX10_praiseOf 1 = .ok (.istore_n 3, 1) := by decide +kernel
theorem dX10_praiseOf_2 : decode cX10_praiseOf 2 = .ok (.iconst 0, 1) := by decide +kernel
theorem dX10_praiseOf_3 : decode cX10_praiseOf 3 = .ok (.istore 4, 2) := by decide +kernel
theorem dX10_praiseOf_5 : decode cX10_praiseOf 5 = .ok (.iload 4, 2) := by decide +kernel
theorem dX10_praiseOf_7 : decode cX10_praiseOf 7 = .ok (.aload_n 0, 1) := by decide +kernel
theorem dX10_praiseOf_8 : decode cX10_praiseOf 8 = .ok (.getfield 23, 3) := by decide +kernel
theorem dX10_praiseOf_11 : decode cX10_praiseOf 11 = .ok (.iconst 5, 1) := by decide +kernel
theorem dX10_praiseOf_12 : decode cX10_praiseOf 12 = .ok (.iaload, 1) := by decide +kernel
theorem dX10_praiseOf_13 : decode cX10_praiseOf 13 = .ok (.if_icmp .ge 54, 3) := by decide +kernel
theorem dX10_praiseOf_16 : decode cX10_praiseOf 16 = .ok (.iload_n 3, 1) := by decide +kernel
theorem dX10_praiseOf_17 : decode cX10_praiseOf 17 = .ok (.aload_n 0, 1) := by decide +kernel
theorem dX10_praiseOf_18 : decode cX10_praiseOf 18 = .ok (.getfield 61, 3) := by decide +kernel
theorem dX10_praiseOf_21 : decode cX10_praiseOf 21 = .ok (.iload 4, 2) := by decide +kernel
theorem dX10_praiseOf_23 : decode cX10_praiseOf 23 = .ok (.aaload, 1) := by decide +kernel
theorem dX10_praiseOf_24 : decode cX10_praiseOf 24 = .ok (.iconst 0, 1) := by decide +kernel
theorem dX10_praiseOf_25 : decode cX10_praiseOf 25 = .ok (.iaload, 1) := by decide +kernel
theorem dX10_praiseOf_26 : decode cX10_praiseOf 26 = .ok (.aload_n 1, 1) := by decide +kernel
theorem dX10_praiseOf_27 : decode cX10_praiseOf 27 = .ok (.bipush 99, 2) := by decide +kernel
theorem dX10_praiseOf_29 : decode cX10_praiseOf 29 = .ok (.iaload, 1) := by decide +kernel
theorem dX10_praiseOf_30 : decode cX10_praiseOf 30 = .ok (.if_icmp .ne 28, 3) := by decide +kernel
theorem dX10_praiseOf_33 : decode cX10_praiseOf 33 = .ok (.aload_n 0, 1) := by decide +kernel
theorem dX10_praiseOf_34 : decode cX10_praiseOf 34 = .ok (.getfield 61, 3) := by decide +kernel
theorem dX10_praiseOf_37 : decode cX10_praiseOf 37 = .ok (.iload 4, 2) := by decide +kernel
theorem dX10_praiseOf_39 : decode cX10_praiseOf 39 = .ok (.aaload, 1) := by decide +kernel
theorem dX10_praiseOf_40 : decode cX10_praiseOf 40 = .ok (.iconst 1, 1) := by decide +kernel
theorem dX10_praiseOf_41 : decode cX10_praiseOf 41 = .ok (.iaload, 1) := by decide +kernel
theorem dX10_praiseOf_42 : decode cX10_praiseOf 42 = .ok (.iload_n 2, 1) := by decide +kernel
theorem dX10_praiseOf_43 : decode cX10_praiseOf 43 = .ok (.if_icmp .ne 15, 3) := by decide +kernel
theorem dX10_praiseOf_46 : decode cX10_praiseOf 46 = .ok (.aload_n 0, 1) := by decide +kernel
theorem dX10_praiseOf_47 : decode cX10_praiseOf 47 = .ok (.getfield 61, 3) := by decide +kernel
theorem dX10_praiseOf_50 : decode cX10_praiseOf 50 = .ok (.iload 4, 2) := by decide +kernel
theorem dX10_praiseOf_52 : decode cX10_praiseOf 52 = .ok (.aaload, 1) := by decide +kernel
theorem dX10_praiseOf_53 : decode cX10_praiseOf 53 = .ok (.iconst 2, 1) := by decide +kernel
theorem dX10_praiseOf_54 : decode cX10_praiseOf 54 = .ok (.iaload, 1) := by decide +kernel
theorem dX10_praiseOf_55 : decode cX10_praiseOf 55 = .ok (.goto 4, 3) := by decide +kernel
theorem dX10_praiseOf_58 : decode cX10_praiseOf 58 = .ok (.iconst 0, 1) := by decide +kernel
theorem dX10_praiseOf_59 : decode cX10_praiseOf 59 = .ok (.iadd, 1) := by decide +kernel
theorem dX10_praiseOf_60 : decode cX10_praiseOf 60 = .ok (.istore_n 3, 1) := by decide +kernel
theorem dX10_praiseOf_61 : decode cX10_praiseOf 61 = .ok (.iinc 4 1, 3) := by decide +kernel
theorem dX10_praiseOf_64 : decode cX10_praiseOf 64 = .ok (.goto (-59), 3) := by decide +kernel
theorem dX10_praiseOf_67 : decode cX10_praiseOf 67 = .ok (.iconst 0, 1) := by decide +kernel
theorem dX10_praiseOf_68 : decode cX10_praiseOf 68 = .ok (.istore 4, 2) := by decide +kernel
theorem dX10_praiseOf_70 : decode cX10_praiseOf 70 = .ok (.iload 4, 2) := by decide +kernel
theorem dX10_praiseOf_72 : decode cX10_praiseOf 72 = .ok (.aload_n 1, 1) := by decide +kernel
theorem dX10_praiseOf_73 : decode cX10_praiseOf 73 = .ok (.bipush 98, 2) := by decide +kernel
theorem dX10_praiseOf_75 : decode cX10_praiseOf 75 = .ok (.iaload, 1) := by decide +kernel
theorem dX10_praiseOf_76 : decode cX10_praiseOf 76 = .ok (.if_icmp .ge 58, 3) := by decide +kernel
theorem dX10_praiseOf_79 : decode cX10_praiseOf 79 = .ok (.iload_n 3, 1) := by decide +kernel
theorem dX10_praiseOf_80 : decode cX10_praiseOf 80 = .ok (.aload_n 1, 1) := by decide +kernel
theorem dX10_praiseOf_81 : decode cX10_praiseOf 81 = .ok (.bipush 62, 2) := by decide +kernel
theorem dX10_praiseOf_83 : decode cX10_praiseOf 83 = .ok (.iconst 3, 1) := by decide +kernel
theorem dX10_praiseOf_84 : decode cX10_praiseOf 84 = .ok (.iload 4, 2) := by decide +kernel
theorem dX10_praiseOf_86 : decode cX10_praiseOf 86 = .ok (.imul, 1) := by decide +kernel
theorem dX10_praiseOf_87 : decode cX10_praiseOf 87 = .ok (.iadd, 1) := by decide +kernel
theorem dX10_praiseOf_88 : decode cX10_praiseOf 88 = .ok (.iaload, 1) := by decide +kernel
theorem dX10_praiseOf_89 : decode cX10_praiseOf 89 = .ok (.aload_n 1, 1) := by decide +kernel
theorem dX10_praiseOf_90 : decode cX10_praiseOf 90 = .ok (.bipush 99, 2) := by decide +kernel
theorem dX10_praiseOf_92 : decode cX10_praiseOf 92 = .ok (.iaload, 1) := by decide +kernel
theorem dX10_praiseOf_93 : decode cX10_praiseOf 93 = .ok (.if_icmp .ne 32, 3) := by decide +kernel
theorem dX10_praiseOf_96 : decode cX10_praiseOf 96 = .ok (.aload_n 1, 1) := by decide +kernel
theorem dX10_praiseOf_97 : decode cX10_praiseOf 97 = .ok (.bipush 62, 2) := by decide +kernel
theorem dX10_praiseOf_99 : decode cX10_praiseOf 99 = .ok (.iconst 3, 1) := by decide +kernel
theorem dX10_praiseOf_100 : decode cX10_praiseOf 100 = .ok (.iload 4, 2) := by decide +kernel
theorem dX10_praiseOf_102 : decode cX10_praiseOf 102 = .ok (.imul, 1) := by decide +kernel
theorem dX10_praiseOf_103 : decode cX10_praiseOf 103 = .ok (.iadd, 1) := by decide +kernel
theorem dX10_praiseOf_104 : decode cX10_praiseOf 104 = .ok (.iconst 1, 1) := by decide +kernel
theorem dX10_praiseOf_105 : decode cX10_praiseOf 105 = .ok (.iadd, 1) := by decide +kernel
theorem dX10_praiseOf_106 : decode cX10_praiseOf 106 = .ok (.iaload, 1) := by decide +kernel
theorem dX10_praiseOf_107 : decode cX10_praiseOf 107 = .ok (.iload_n 2, 1) := by decide +kernel
theorem dX10_praiseOf_108 : decode cX10_praiseOf 108 = .ok (.if_icmp .ne 17, 3) := by decide +kernel
theorem dX10_praiseOf_111 : decode cX10_praiseOf 111 = .ok (.aload_n 1, 1) := by decide +kernel
theorem dX10_praiseOf_112 : decode cX10_praiseOf 112 = .ok (.bipush 62, 2) := by decide +kernel
theorem dX10_praiseOf_114 : decode cX10_praiseOf 114 = .ok (.iconst 3, 1) := by decide +kernel
theorem dX10_praiseOf_115 : decode cX10_praiseOf 115 = .ok (.iload 4, 2) := by decide +kernel
theorem dX10_praiseOf_117 : decode cX10_praiseOf 117 = .ok (.imul, 1) := by decide +kernel
theorem dX10_praiseOf_118 : decode cX10_praiseOf 118 = .ok (.iadd, 1) := by decide +kernel
theorem dX10_praiseOf_119 : decode cX10_praiseOf 119 = .ok (.iconst 2, 1) := by decide +kernel
theorem dX10_praiseOf_120 : decode cX10_praiseOf 120 = .ok (.iadd, 1) := by decide +kernel
theorem dX10_praiseOf_121 : decode cX10_praiseOf 121 = .ok (.iaload, 1) := by decide +kernel
theorem dX10_praiseOf_122 : decode cX10_praiseOf 122 = .ok (.goto 4, 3) := by decide +kernel
theorem dX10_praiseOf_125 : decode cX10_praiseOf 125 = .ok (.iconst 0, 1) := by decide +kernel
theorem dX10_praiseOf_126 : decode cX10_praiseOf 126 = .ok (.iadd, 1) := by decide +kernel
theorem dX10_praiseOf_127 : decode cX10_praiseOf 127 = .ok (.istore_n 3, 1) := by decide +kernel
theorem dX10_praiseOf_128 : decode cX10_praiseOf 128 = .ok (.iinc 4 1, 3) := by decide +kernel
theorem dX10_praiseOf_131 : decode cX10_praiseOf 131 = .ok (.goto (-61), 3) := by decide +kernel
theorem dX10_praiseOf_134 : decode cX10_praiseOf 134 = .ok (.iconst 0, 1) := by decide +kernel
theorem dX10_praiseOf_135 : decode cX10_praiseOf 135 = .ok (.istore 4, 2) := by decide +kernel
theorem dX10_praiseOf_137 : decode cX10_praiseOf 137 = .ok (.iload 4, 2) := by decide +kernel
theorem dX10_praiseOf_139 : decode cX10_praiseOf 139 = .ok (.aload_n 0, 1) := by decide +kernel
theorem dX10_praiseOf_140 : decode cX10_praiseOf 140 = .ok (.getfield 310, 3) := by decide +kernel
theorem dX10_praiseOf_143 : decode cX10_praiseOf 143 = .ok (.if_icmp .ge 54, 3) := by decide +kernel
theorem dX10_praiseOf_146 : decode cX10_praiseOf 146 = .ok (.iload_n 3, 1) := by decide +kernel
theorem dX10_praiseOf_147 : decode cX10_praiseOf 147 = .ok (.aload_n 0, 1) := by decide +kernel
theorem dX10_praiseOf_148 : decode cX10_praiseOf 148 = .ok (.getfield 100, 3) := by decide +kernel
theorem dX10_praiseOf_151 : decode cX10_praiseOf 151 = .ok (.iload 4, 2) := by decide +kernel
theorem dX10_praiseOf_153 : decode cX10_praiseOf 153 = .ok (.aaload, 1) := by decide +kernel
theorem dX10_praiseOf_154 : decode cX10_praiseOf 154 = .ok (.iconst 0, 1) := by decide +kernel
theorem dX10_praiseOf_155 : decode cX10_praiseOf 155 = .ok (.iaload, 1) := by decide +kernel
theorem dX10_praiseOf_156 : decode cX10_praiseOf 156 = .ok (.aload_n 1, 1) := by decide +kernel
theorem dX10_praiseOf_157 : decode cX10_praiseOf 157 = .ok (.bipush 99, 2) := by decide +kernel
theorem dX10_praiseOf_159 : decode cX10_praiseOf 159 = .ok (.iaload, 1) := by decide +kernel
theorem dX10_praiseOf_160 : decode cX10_praiseOf 160 = .ok (.if_icmp .ne 28, 3) := by decide +kernel
theorem dX10_praiseOf_163 : decode cX10_praiseOf 163 = .ok (.aload_n 0, 1) := by decide +kernel
theorem dX10_praiseOf_164 : decode cX10_praiseOf 164 = .ok (.getfield 100, 3) := by decide +kernel
theorem dX10_praiseOf_167 : decode cX10_praiseOf 167 = .ok (.iload 4, 2) := by decide +kernel
theorem dX10_praiseOf_169 : decode cX10_praiseOf 169 = .ok (.aaload, 1) := by decide +kernel
theorem dX10_praiseOf_170 : decode cX10_praiseOf 170 = .ok (.iconst 1, 1) := by decide +kernel
theorem dX10_praiseOf_171 : decode cX10_praiseOf 171 = .ok (.iaload, 1) := by decide +kernel
theorem dX10_praiseOf_172 : decode cX10_praiseOf 172 = .ok (.iload_n 2, 1) := by decide +kernel
theorem dX10_praiseOf_173 : decode cX10_praiseOf 173 = .ok (.if_icmp .ne 15, 3) := by decide +kernel
theorem dX10_praiseOf_176 : decode cX10_praiseOf 176 = .ok (.aload_n 0, 1) := by decide +kernel
theorem dX10_praiseOf_177 : decode cX10_praiseOf 177 = .ok (.getfield 100, 3) := by decide +kernel
theorem dX10_praiseOf_180 : decode cX10_praiseOf 180 = .ok (.iload 4, 2) := by decide +kernel
theorem dX10_praiseOf_182 : decode cX10_praiseOf 182 = .ok (.aaload, 1) := by decide +kernel
theorem dX10_praiseOf_183 : decode cX10_praiseOf 183 = .ok (.iconst 2, 1) := by decide +kernel
theorem dX10_praiseOf_184 : decode cX10_praiseOf 184 = .ok (.iaload, 1) := by decide +kernel
theorem dX10_praiseOf_185 : decode cX10_praiseOf 185 = .ok (.goto 4, 3) := by decide +kernel
theorem dX10_praiseOf_188 : decode cX10_praiseOf 188 = .ok (.iconst 0, 1) := by decide +kernel
theorem dX10_praiseOf_189 : decode cX10_praiseOf 189 = .ok (.iadd, 1) := by decide +kernel
theorem dX10_praiseOf_190 : decode cX10_praiseOf 190 = .ok (.istore_n 3, 1) := by decide +kernel
theorem dX10_praiseOf_191 : decode cX10_praiseOf 191 = .ok (.iinc 4 1, 3) := by decide +kernel
theorem dX10_praiseOf_194 : decode cX10_praiseOf 194 = .ok (.goto (-57), 3) := by decide +kernel
theorem dX10_praiseOf_197 : decode cX10_praiseOf 197 = .ok (.iload_n 3, 1) := by decide +kernel
theorem dX10_praiseOf_198 : decode cX10_praiseOf 198 = .ok (.ireturn, 1) := by decide +kernel
def fX10_praiseOf_137  : Nat → Nat → Nat → Int32 → Int32 → Int32 → zV → Option (Int32 × zV)
  | 0 => fun _ _ _ _ _ _ => none
  | n + 1 => fun x0 x1 x2 x3 x4 v =>
    if (v x0 44) ≤ x4 then
      some (x3, v)
    else
      zix x4 (zlen (zrf x0 43)) <|
      zix (0 : Int32) (zlen (zrf (zrf x0 43) (x4).toNatClampNeg)) <|
      zix (99 : Int32) (zlen x1) <|
      if (v (zrf (zrf x0 43) (x4).toNatClampNeg) ((0 : Int32)).toNatClampNeg) = (v x1 ((99 : Int32)).toNatClampNeg) then
        zix x4 (zlen (zrf x0 43)) <|
        zix (1 : Int32) (zlen (zrf (zrf x0 43) (x4).toNatClampNeg)) <|
        if (v (zrf (zrf x0 43) (x4).toNatClampNeg) ((1 : Int32)).toNatClampNeg) = x2 then
          zix x4 (zlen (zrf x0 43)) <|
          zix (2 : Int32) (zlen (zrf (zrf x0 43) (x4).toNatClampNeg)) <|
          zlet (x3 + (v (zrf (zrf x0 43) (x4).toNatClampNeg) ((2 : Int32)).toNatClampNeg)) fun y_1 =>
          (fX10_praiseOf_137 n) x0 x1 x2 y_1 (x4 + (1 : Int32)) v
        else
          (fX10_praiseOf_137 n) x0 x1 x2 (x3 + (0 : Int32)) (x4 + (1 : Int32)) v
      else
        (fX10_praiseOf_137 n) x0 x1 x2 (x3 + (0 : Int32)) (x4 + (1 : Int32)) v
set_option maxRecDepth 4000 in
theorem jX10_praiseOf_137 (x : zCx) (G : zG) (F : zF x G cX10_praiseOf 5 RX10 1 80) (hr : x.2.2.2.2.2.2.2.2.1.sig.returnType = (Option.some FieldType.int)) (hk : x.2.2.2.2.2.2.2.2.1.locks = false) (r : Int32) (w : zV)  : ∀ (n : Nat) (x0 : Nat) (t0 : zty G x0 1 10) (x1 : Nat) (t1 : zty G x1 2 0) (x2 : Int32) (x3 : Int32) (x4 : Int32) (v : zV), fX10_praiseOf_137 n x0 x1 x2 x3 x4 v = some (r, w) → zJ x G 5 (zQ x G (some (.int r)) w 0 0) 0 0 137 [(0, zr G x0), (1, zr G x1), (2, .int x2), (3, .int x3), (4, .int x4)] [] v := by
  intro n
  induction n with
  | zero => intro x0 t0 x1 t1 x2 x3 x4 v h; exact absurd h (by intro q; cases q)
  | succ n ih =>
    intro x0 t0 x1 t1 x2 x3 x4 v h
    rw [fX10_praiseOf_137] at h
    dsimp only at h
    refine z_iload F dX10_praiseOf_137 4 rfl ?_
    refine z_aload_n F dX10_praiseOf_139 rfl 0 rfl ?_
    refine zg_10_44 F t0 wF_X10_310 dX10_praiseOf_140 ?_
    refine z_icmp_ge F 197 dX10_praiseOf_143 rfl (fun hc => ?_) (fun hc => ?_)
    · replace h := zif_t hc h
      refine z_iload_n F dX10_praiseOf_197 rfl 3 rfl ?_
      cases h
      exact z_reti F hr hk dX10_praiseOf_198
    · replace h := zif_f hc h
      refine z_iload_n F dX10_praiseOf_146 rfl 3 rfl ?_
      refine z_aload_n F dX10_praiseOf_147 rfl 0 rfl ?_
      refine zg_10_43 F t0 wF_X10_100 dX10_praiseOf_148 ?_
      refine z_iload F dX10_praiseOf_151 4 rfl ?_
      obtain ⟨hi153, h⟩ := zix_ex h
      refine z_aald3 F (zt_f tc_10_43 t0) dX10_praiseOf_153 hi153 ?_
      refine z_iconst (y := (0 : Int32)) F dX10_praiseOf_154 rfl ?_
      obtain ⟨hi155, h⟩ := zix_ex h
      refine z_iald F (zt_a tcA_3 (zt_f tc_10_43 t0) (zin_lt hi153)) dX10_praiseOf_155 hi155 ?_
      refine z_aload_n F dX10_praiseOf_156 rfl 1 rfl ?_
      refine z_bipush (y := (99 : Int32)) F dX10_praiseOf_157 rfl ?_
      obtain ⟨hi159, h⟩ := zix_ex h
      refine z_iald F t1 dX10_praiseOf_159 hi159 ?_
      refine z_icmp_ne F 188 dX10_praiseOf_160 rfl (fun hc => ?_) (fun hc => ?_)
      · replace h := zif_f hc h
        refine z_iconst (y := (0 : Int32)) F dX10_praiseOf_188 rfl ?_
        refine z_iadd F dX10_praiseOf_189 ?_
        refine z_istore_n F [(3, .int (x3 + (0 : Int32))), (0, zr G x0), (1, zr G x1), (2, .int x2), (4, .int x4)] dX10_praiseOf_190 rfl (Nat.le_of_ble_eq_true rfl) rfl ?_
        refine z_iinc F [(4, .int (x4 + (1 : Int32))), (3, .int (x3 + (0 : Int32))), (0, zr G x0), (1, zr G x1), (2, .int x2)] dX10_praiseOf_191 4 rfl rfl (Nat.le_of_ble_eq_true rfl) rfl ?_
        refine z_goto F 137 dX10_praiseOf_194 rfl ?_
        refine z_ls [(0, zr G x0), (1, zr G x1), (2, .int x2), (3, .int (x3 + (0 : Int32))), (4, .int (x4 + (1 : Int32)))] [2, 3, 4, 1, 0] rfl ?_
        exact ih x0 t0 x1 t1 x2 (x3 + (0 : Int32)) (x4 + (1 : Int32)) v h
      · replace h := zif_t hc h
        refine z_aload_n F dX10_praiseOf_163 rfl 0 rfl ?_
        refine zg_10_43 F t0 wF_X10_100 dX10_praiseOf_164 ?_
        refine z_iload F dX10_praiseOf_167 4 rfl ?_
        obtain ⟨hi169, h⟩ := zix_ex h
        refine z_aald3 F (zt_f tc_10_43 t0) dX10_praiseOf_169 hi169 ?_
        refine z_iconst (y := (1 : Int32)) F dX10_praiseOf_170 rfl ?_
        obtain ⟨hi171, h⟩ := zix_ex h
        refine z_iald F (zt_a tcA_3 (zt_f tc_10_43 t0) (zin_lt hi169)) dX10_praiseOf_171 hi171 ?_
        refine z_iload_n F dX10_praiseOf_172 rfl 2 rfl ?_
        refine z_icmp_ne F 188 dX10_praiseOf_173 rfl (fun hc => ?_) (fun hc => ?_)
        · replace h := zif_f hc h
          refine z_iconst (y := (0 : Int32)) F dX10_praiseOf_188 rfl ?_
          refine z_iadd F dX10_praiseOf_189 ?_
          refine z_istore_n F [(3, .int (x3 + (0 : Int32))), (0, zr G x0), (1, zr G x1), (2, .int x2), (4, .int x4)] dX10_praiseOf_190 rfl (Nat.le_of_ble_eq_true rfl) rfl ?_
          refine z_iinc F [(4, .int (x4 + (1 : Int32))), (3, .int (x3 + (0 : Int32))), (0, zr G x0), (1, zr G x1), (2, .int x2)] dX10_praiseOf_191 4 rfl rfl (Nat.le_of_ble_eq_true rfl) rfl ?_
          refine z_goto F 137 dX10_praiseOf_194 rfl ?_
          refine z_ls [(0, zr G x0), (1, zr G x1), (2, .int x2), (3, .int (x3 + (0 : Int32))), (4, .int (x4 + (1 : Int32)))] [2, 3, 4, 1, 0] rfl ?_
          exact ih x0 t0 x1 t1 x2 (x3 + (0 : Int32)) (x4 + (1 : Int32)) v h
        · replace h := zif_t hc h
          refine z_aload_n F dX10_praiseOf_176 rfl 0 rfl ?_
          refine zg_10_43 F t0 wF_X10_100 dX10_praiseOf_177 ?_
          refine z_iload F dX10_praiseOf_180 4 rfl ?_
          obtain ⟨hi182, h⟩ := zix_ex h
          refine z_aald3 F (zt_f tc_10_43 t0) dX10_praiseOf_182 hi182 ?_
          refine z_iconst (y := (2 : Int32)) F dX10_praiseOf_183 rfl ?_
          obtain ⟨hi184, h⟩ := zix_ex h
          refine z_iald F (zt_a tcA_3 (zt_f tc_10_43 t0) (zin_lt hi182)) dX10_praiseOf_184 hi184 ?_
          refine z_goto F 189 dX10_praiseOf_185 rfl ?_
          refine z_iadd F dX10_praiseOf_189 ?_
          obtain ⟨y_1, ey_1, h⟩ := zlet_ex h
          refine z_topi ey_1 ?_
          refine z_istore_n F [(3, .int y_1), (0, zr G x0), (1, zr G x1), (2, .int x2), (4, .int x4)] dX10_praiseOf_190 rfl (Nat.le_of_ble_eq_true rfl) rfl ?_
          refine z_iinc F [(4, .int (x4 + (1 : Int32))), (3, .int y_1), (0, zr G x0), (1, zr G x1), (2, .int x2)] dX10_praiseOf_191 4 rfl rfl (Nat.le_of_ble_eq_true rfl) rfl ?_
          refine z_goto F 137 dX10_praiseOf_194 rfl ?_
          refine z_ls [(0, zr G x0), (1, zr G x1), (2, .int x2), (3, .int y_1), (4, .int (x4 + (1 : Int32)))] [2, 3, 4, 1, 0] rfl ?_
          exact ih x0 t0 x1 t1 x2 y_1 (x4 + (1 : Int32)) v h

def fX10_praiseOf_70  : Nat → Nat → Nat → Int32 → Int32 → Int32 → zV → Option (Int32 × zV)
  | 0 => fun _ _ _ _ _ _ => none
  | n + 1 => fun x0 x1 x2 x3 x4 v =>
    zix (98 : Int32) (zlen x1) <|
    if (v x1 ((98 : Int32)).toNatClampNeg) ≤ x4 then
      fX10_praiseOf_137  zFU x0 x1 x2 x3 (0 : Int32) v
    else
      zix ((62 : Int32) + ((3 : Int32) * x4)) (zlen x1) <|
      zix (99 : Int32) (zlen x1) <|
      if (v x1 ((62 : Int32) + ((3 : Int32) * x4)).toNatClampNeg) = (v x1 ((99 : Int32)).toNatClampNeg) then
        zix (((62 : Int32) + ((3 : Int32) * x4)) + (1 : Int32)) (zlen x1) <|
        if (v x1 (((62 : Int32) + ((3 : Int32) * x4)) + (1 : Int32)).toNatClampNeg) = x2 then
          zix (((62 : Int32) + ((3 : Int32) * x4)) + (2 : Int32)) (zlen x1) <|
          zlet (x3 + (v x1 (((62 : Int32) + ((3 : Int32) * x4)) + (2 : Int32)).toNatClampNeg)) fun y_1 =>
          (fX10_praiseOf_70 n) x0 x1 x2 y_1 (x4 + (1 : Int32)) v
        else
          (fX10_praiseOf_70 n) x0 x1 x2 (x3 + (0 : Int32)) (x4 + (1 : Int32)) v
      else
        (fX10_praiseOf_70 n) x0 x1 x2 (x3 + (0 : Int32)) (x4 + (1 : Int32)) v
set_option maxRecDepth 4000 in
theorem jX10_praiseOf_70 (x : zCx) (G : zG) (F : zF x G cX10_praiseOf 5 RX10 1 80) (hr : x.2.2.2.2.2.2.2.2.1.sig.returnType = (Option.some FieldType.int)) (hk : x.2.2.2.2.2.2.2.2.1.locks = false) (r : Int32) (w : zV)  : ∀ (n : Nat) (x0 : Nat) (t0 : zty G x0 1 10) (x1 : Nat) (t1 : zty G x1 2 0) (x2 : Int32) (x3 : Int32) (x4 : Int32) (v : zV), fX10_praiseOf_70 n x0 x1 x2 x3 x4 v = some (r, w) → zJ x G 5 (zQ x G (some (.int r)) w 0 0) 0 0 70 [(0, zr G x0), (1, zr G x1), (2, .int x2), (3, .int x3), (4, .int x4)] [] v := by
  intro n
  induction n with
  | zero => intro x0 t0 x1 t1 x2 x3 x4 v h; exact absurd h (by intro q; cases q)
  | succ n ih =>
    intro x0 t0 x1 t1 x2 x3 x4 v h
    rw [fX10_praiseOf_70] at h
    dsimp only at h
    refine z_iload F dX10_praiseOf_70 4 rfl ?_
    refine z_aload_n F dX10_praiseOf_72 rfl 1 rfl ?_
    refine z_bipush (y := (98 : Int32)) F dX10_praiseOf_73 rfl ?_
    obtain ⟨hi75, h⟩ := zix_ex h
    refine z_iald F t1 dX10_praiseOf_75 hi75 ?_
    refine z_icmp_ge F 134 dX10_praiseOf_76 rfl (fun hc => ?_) (fun hc => ?_)
    · replace h := zif_t hc h
      refine z_iconst (y := (0 : Int32)) F dX10_praiseOf_134 rfl ?_
      refine z_istore (n := 0) F [(4, .int (0 : Int32)), (0, zr G x0), (1, zr G x1), (2, .int x2), (3, .int x3)] dX10_praiseOf_135 (Nat.le_of_ble_eq_true rfl) rfl ?_
      refine z_ls [(0, zr G x0), (1, zr G x1), (2, .int x2), (3, .int x3), (4, .int (0 : Int32))] [1, 2, 3, 4, 0] rfl ?_
      exact jX10_praiseOf_137 x G F hr hk r w   zFU x0 t0 x1 t1 x2 x3 (0 : Int32) v h
    · replace h := zif_f hc h
      refine z_iload_n F dX10_praiseOf_79 rfl 3 rfl ?_
      refine z_aload_n F dX10_praiseOf_80 rfl 1 rfl ?_
      refine z_bipush (y := (62 : Int32)) F dX10_praiseOf_81 rfl ?_
      refine z_iconst (y := (3 : Int32)) F dX10_praiseOf_83 rfl ?_
      refine z_iload F dX10_praiseOf_84 4 rfl ?_
      refine z_imul F dX10_praiseOf_86 ?_
      refine z_iadd F dX10_praiseOf_87 ?_
      obtain ⟨hi88, h⟩ := zix_ex h
      refine z_iald F t1 dX10_praiseOf_88 hi88 ?_
      refine z_aload_n F dX10_praiseOf_89 rfl 1 rfl ?_
      refine z_bipush (y := (99 : Int32)) F dX10_praiseOf_90 rfl ?_
      obtain ⟨hi92, h⟩ := zix_ex h
      refine z_iald F t1 dX10_praiseOf_92 hi92 ?_
      refine z_icmp_ne F 125 dX10_praiseOf_93 rfl (fun hc => ?_) (fun hc => ?_)
      · replace h := zif_f hc h
        refine z_iconst (y := (0 : Int32)) F dX10_praiseOf_125 rfl ?_
        refine z_iadd F dX10_praiseOf_126 ?_
        refine z_istore_n F [(3, .int (x3 + (0 : Int32))), (0, zr G x0), (1, zr G x1), (2, .int x2), (4, .int x4)] dX10_praiseOf_127 rfl (Nat.le_of_ble_eq_true rfl) rfl ?_
        refine z_iinc F [(4, .int (x4 + (1 : Int32))), (3, .int (x3 + (0 : Int32))), (0, zr G x0), (1, zr G x1), (2, .int x2)] dX10_praiseOf_128 4 rfl rfl (Nat.le_of_ble_eq_true rfl) rfl ?_
        refine z_goto F 70 dX10_praiseOf_131 rfl ?_
        refine z_ls [(0, zr G x0), (1, zr G x1), (2, .int x2), (3, .int (x3 + (0 : Int32))), (4, .int (x4 + (1 : Int32)))] [2, 3, 4, 1, 0] rfl ?_
        exact ih x0 t0 x1 t1 x2 (x3 + (0 : Int32)) (x4 + (1 : Int32)) v h
      · replace h := zif_t hc h
        refine z_aload_n F dX10_praiseOf_96 rfl 1 rfl ?_
        refine z_bipush (y := (62 : Int32)) F dX10_praiseOf_97 rfl ?_
        refine z_iconst (y := (3 : Int32)) F dX10_praiseOf_99 rfl ?_
        refine z_iload F dX10_praiseOf_100 4 rfl ?_
        refine z_imul F dX10_praiseOf_102 ?_
        refine z_iadd F dX10_praiseOf_103 ?_
        refine z_iconst (y := (1 : Int32)) F dX10_praiseOf_104 rfl ?_
        refine z_iadd F dX10_praiseOf_105 ?_
        obtain ⟨hi106, h⟩ := zix_ex h
        refine z_iald F t1 dX10_praiseOf_106 hi106 ?_
        refine z_iload_n F dX10_praiseOf_107 rfl 2 rfl ?_
        refine z_icmp_ne F 125 dX10_praiseOf_108 rfl (fun hc => ?_) (fun hc => ?_)
        · replace h := zif_f hc h
          refine z_iconst (y := (0 : Int32)) F dX10_praiseOf_125 rfl ?_
          refine z_iadd F dX10_praiseOf_126 ?_
          refine z_istore_n F [(3, .int (x3 + (0 : Int32))), (0, zr G x0), (1, zr G x1), (2, .int x2), (4, .int x4)] dX10_praiseOf_127 rfl (Nat.le_of_ble_eq_true rfl) rfl ?_
          refine z_iinc F [(4, .int (x4 + (1 : Int32))), (3, .int (x3 + (0 : Int32))), (0, zr G x0), (1, zr G x1), (2, .int x2)] dX10_praiseOf_128 4 rfl rfl (Nat.le_of_ble_eq_true rfl) rfl ?_
          refine z_goto F 70 dX10_praiseOf_131 rfl ?_
          refine z_ls [(0, zr G x0), (1, zr G x1), (2, .int x2), (3, .int (x3 + (0 : Int32))), (4, .int (x4 + (1 : Int32)))] [2, 3, 4, 1, 0] rfl ?_
          exact ih x0 t0 x1 t1 x2 (x3 + (0 : Int32)) (x4 + (1 : Int32)) v h
        · replace h := zif_t hc h
          refine z_aload_n F dX10_praiseOf_111 rfl 1 rfl ?_
          refine z_bipush (y := (62 : Int32)) F dX10_praiseOf_112 rfl ?_
          refine z_iconst (y := (3 : Int32)) F dX10_praiseOf_114 rfl ?_
          refine z_iload F dX10_praiseOf_115 4 rfl ?_
          refine z_imul F dX10_praiseOf_117 ?_
          refine z_iadd F dX10_praiseOf_118 ?_
          refine z_iconst (y := (2 : Int32)) F dX10_praiseOf_119 rfl ?_
          refine z_iadd F dX10_praiseOf_120 ?_
          obtain ⟨hi121, h⟩ := zix_ex h
          refine z_iald F t1 dX10_praiseOf_121 hi121 ?_
          refine z_goto F 126 dX10_praiseOf_122 rfl ?_
          refine z_iadd F dX10_praiseOf_126 ?_
          obtain ⟨y_1, ey_1, h⟩ := zlet_ex h
          refine z_topi ey_1 ?_
          refine z_istore_n F [(3, .int y_1), (0, zr G x0), (1, zr G x1), (2, .int x2), (4, .int x4)] dX10_praiseOf_127 rfl (Nat.le_of_ble_eq_true rfl) rfl ?_
          refine z_iinc F [(4, .int (x4 + (1 : Int32))), (3, .int y_1), (0, zr G x0), (1, zr G x1), (2, .int x2)] dX10_praiseOf_128 4 rfl rfl (Nat.le_of_ble_eq_true rfl) rfl ?_
          refine z_goto F 70 dX10_praiseOf_131 rfl ?_
          refine z_ls [(0, zr G x0), (1, zr G x1), (2, .int x2), (3, .int y_1), (4, .int (x4 + (1 : Int32)))] [2, 3, 4, 1, 0] rfl ?_
          exact ih x0 t0 x1 t1 x2 y_1 (x4 + (1 : Int32)) v h

def fX10_praiseOf_5  : Nat → Nat → Nat → Int32 → Int32 → Int32 → zV → Option (Int32 × zV)
  | 0 => fun _ _ _ _ _ _ => none
  | n + 1 => fun x0 x1 x2 x3 x4 v =>
    zix (5 : Int32) (zlen (zrf x0 12)) <|
    if (v (zrf x0 12) ((5 : Int32)).toNatClampNeg) ≤ x4 then
      fX10_praiseOf_70  zFU x0 x1 x2 x3 (0 : Int32) v
    else
      zix x4 (zlen (zrf x0 24)) <|
      zix (0 : Int32) (zlen (zrf (zrf x0 24) (x4).toNatClampNeg)) <|
      zix (99 : Int32) (zlen x1) <|
      if (v (zrf (zrf x0 24) (x4).toNatClampNeg) ((0 : Int32)).toNatClampNeg) = (v x1 ((99 : Int32)).toNatClampNeg) then
        zix x4 (zlen (zrf x0 24)) <|
        zix (1 : Int32) (zlen (zrf (zrf x0 24) (x4).toNatClampNeg)) <|
        if (v (zrf (zrf x0 24) (x4).toNatClampNeg) ((1 : Int32)).toNatClampNeg) = x2 then
          zix x4 (zlen (zrf x0 24)) <|
          zix (2 : Int32) (zlen (zrf (zrf x0 24) (x4).toNatClampNeg)) <|
          zlet (x3 + (v (zrf (zrf x0 24) (x4).toNatClampNeg) ((2 : Int32)).toNatClampNeg)) fun y_1 =>
          (fX10_praiseOf_5 n) x0 x1 x2 y_1 (x4 + (1 : Int32)) v
        else
          (fX10_praiseOf_5 n) x0 x1 x2 (x3 + (0 : Int32)) (x4 + (1 : Int32)) v
      else
        (fX10_praiseOf_5 n) x0 x1 x2 (x3 + (0 : Int32)) (x4 + (1 : Int32)) v
set_option maxRecDepth 4000 in
theorem jX10_praiseOf_5 (x : zCx) (G : zG) (F : zF x G cX10_praiseOf 5 RX10 1 80) (hr : x.2.2.2.2.2.2.2.2.1.sig.returnType = (Option.some FieldType.int)) (hk : x.2.2.2.2.2.2.2.2.1.locks = false) (r : Int32) (w : zV)  : ∀ (n : Nat) (x0 : Nat) (t0 : zty G x0 1 10) (x1 : Nat) (t1 : zty G x1 2 0) (x2 : Int32) (x3 : Int32) (x4 : Int32) (v : zV), fX10_praiseOf_5 n x0 x1 x2 x3 x4 v = some (r, w) → zJ x G 5 (zQ x G (some (.int r)) w 0 0) 0 0 5 [(0, zr G x0), (1, zr G x1), (2, .int x2), (3, .int x3), (4, .int x4)] [] v := by
  intro n
  induction n with
  | zero => intro x0 t0 x1 t1 x2 x3 x4 v h; exact absurd h (by intro q; cases q)
  | succ n ih =>
    intro x0 t0 x1 t1 x2 x3 x4 v h
    rw [fX10_praiseOf_5] at h
    dsimp only at h
    refine z_iload F dX10_praiseOf_5 4 rfl ?_
    refine z_aload_n F dX10_praiseOf_7 rfl 0 rfl ?_
    refine zg_10_12 F t0 wF_X10_23 dX10_praiseOf_8 ?_
    refine z_iconst (y := (5 : Int32)) F dX10_praiseOf_11 rfl ?_
    obtain ⟨hi12, h⟩ := zix_ex h
    refine z_iald F (zt_f tc_10_12 t0) dX10_praiseOf_12 hi12 ?_
    refine z_icmp_ge F 67 dX10_praiseOf_13 rfl (fun hc => ?_) (fun hc => ?_)
    · replace h := zif_t hc h
      refine z_iconst (y := (0 : Int32)) F dX10_praiseOf_67 rfl ?_
      refine z_istore (n := 0) F [(4, .int (0 : Int32)), (0, zr G x0), (1, zr G x1), (2, .int x2), (3, .int x3)] dX10_praiseOf_68 (Nat.le_of_ble_eq_true rfl) rfl ?_
      refine z_ls [(0, zr G x0), (1, zr G x1), (2, .int x2), (3, .int x3), (4, .int (0 : Int32))] [1, 2, 3, 4, 0] rfl ?_
      exact jX10_praiseOf_70 x G F hr hk r w   zFU x0 t0 x1 t1 x2 x3 (0 : Int32) v h
    · replace h := zif_f hc h
      refine z_iload_n F dX10_praiseOf_16 rfl 3 rfl ?_
      refine z_aload_n F dX10_praiseOf_17 rfl 0 rfl ?_
      refine zg_10_24 F t0 wF_X10_61 dX10_praiseOf_18 ?_
      refine z_iload F dX10_praiseOf_21 4 rfl ?_
      obtain ⟨hi23, h⟩ := zix_ex h
      refine z_aald3 F (zt_f tc_10_24 t0) dX10_praiseOf_23 hi23 ?_
      refine z_iconst (y := (0 : Int32)) F dX10_praiseOf_24 rfl ?_
      obtain ⟨hi25, h⟩ := zix_ex h
      refine z_iald F (zt_a tcA_3 (zt_f tc_10_24 t0) (zin_lt hi23)) dX10_praiseOf_25 hi25 ?_
      refine z_aload_n F dX10_praiseOf_26 rfl 1 rfl ?_
      refine z_bipush (y := (99 : Int32)) F dX10_praiseOf_27 rfl ?_
      obtain ⟨hi29, h⟩ := zix_ex h
      refine z_iald F t1 dX10_praiseOf_29 hi29 ?_
      refine z_icmp_ne F 58 dX10_praiseOf_30 rfl (fun hc => ?_) (fun hc => ?_)
      · replace h := zif_f hc h
        refine z_iconst (y := (0 : Int32)) F dX10_praiseOf_58 rfl ?_
        refine z_iadd F dX10_praiseOf_59 ?_
        refine z_istore_n F [(3, .int (x3 + (0 : Int32))), (0, zr G x0), (1, zr G x1), (2, .int x2), (4, .int x4)] dX10_praiseOf_60 rfl (Nat.le_of_ble_eq_true rfl) rfl ?_
        refine z_iinc F [(4, .int (x4 + (1 : Int32))), (3, .int (x3 + (0 : Int32))), (0, zr G x0), (1, zr G x1), (2, .int x2)] dX10_praiseOf_61 4 rfl rfl (Nat.le_of_ble_eq_true rfl) rfl ?_
        refine z_goto F 5 dX10_praiseOf_64 rfl ?_
        refine z_ls [(0, zr G x0), (1, zr G x1), (2, .int x2), (3, .int (x3 + (0 : Int32))), (4, .int (x4 + (1 : Int32)))] [2, 3, 4, 1, 0] rfl ?_
        exact ih x0 t0 x1 t1 x2 (x3 + (0 : Int32)) (x4 + (1 : Int32)) v h
      · replace h := zif_t hc h
        refine z_aload_n F dX10_praiseOf_33 rfl 0 rfl ?_
        refine zg_10_24 F t0 wF_X10_61 dX10_praiseOf_34 ?_
        refine z_iload F dX10_praiseOf_37 4 rfl ?_
        obtain ⟨hi39, h⟩ := zix_ex h
        refine z_aald3 F (zt_f tc_10_24 t0) dX10_praiseOf_39 hi39 ?_
        refine z_iconst (y := (1 : Int32)) F dX10_praiseOf_40 rfl ?_
        obtain ⟨hi41, h⟩ := zix_ex h
        refine z_iald F (zt_a tcA_3 (zt_f tc_10_24 t0) (zin_lt hi39)) dX10_praiseOf_41 hi41 ?_
        refine z_iload_n F dX10_praiseOf_42 rfl 2 rfl ?_
        refine z_icmp_ne F 58 dX10_praiseOf_43 rfl (fun hc => ?_) (fun hc => ?_)
        · replace h := zif_f hc h
          refine z_iconst (y := (0 : Int32)) F dX10_praiseOf_58 rfl ?_
          refine z_iadd F dX10_praiseOf_59 ?_
          refine z_istore_n F [(3, .int (x3 + (0 : Int32))), (0, zr G x0), (1, zr G x1), (2, .int x2), (4, .int x4)] dX10_praiseOf_60 rfl (Nat.le_of_ble_eq_true rfl) rfl ?_
          refine z_iinc F [(4, .int (x4 + (1 : Int32))), (3, .int (x3 + (0 : Int32))), (0, zr G x0), (1, zr G x1), (2, .int x2)] dX10_praiseOf_61 4 rfl rfl (Nat.le_of_ble_eq_true rfl) rfl ?_
          refine z_goto F 5 dX10_praiseOf_64 rfl ?_
          refine z_ls [(0, zr G x0), (1, zr G x1), (2, .int x2), (3, .int (x3 + (0 : Int32))), (4, .int (x4 + (1 : Int32)))] [2, 3, 4, 1, 0] rfl ?_
          exact ih x0 t0 x1 t1 x2 (x3 + (0 : Int32)) (x4 + (1 : Int32)) v h
        · replace h := zif_t hc h
          refine z_aload_n F dX10_praiseOf_46 rfl 0 rfl ?_
          refine zg_10_24 F t0 wF_X10_61 dX10_praiseOf_47 ?_
          refine z_iload F dX10_praiseOf_50 4 rfl ?_
          obtain ⟨hi52, h⟩ := zix_ex h
          refine z_aald3 F (zt_f tc_10_24 t0) dX10_praiseOf_52 hi52 ?_
          refine z_iconst (y := (2 : Int32)) F dX10_praiseOf_53 rfl ?_
          obtain ⟨hi54, h⟩ := zix_ex h
          refine z_iald F (zt_a tcA_3 (zt_f tc_10_24 t0) (zin_lt hi52)) dX10_praiseOf_54 hi54 ?_
          refine z_goto F 59 dX10_praiseOf_55 rfl ?_
          refine z_iadd F dX10_praiseOf_59 ?_
          obtain ⟨y_1, ey_1, h⟩ := zlet_ex h
          refine z_topi ey_1 ?_
          refine z_istore_n F [(3, .int y_1), (0, zr G x0), (1, zr G x1), (2, .int x2), (4, .int x4)] dX10_praiseOf_60 rfl (Nat.le_of_ble_eq_true rfl) rfl ?_
          refine z_iinc F [(4, .int (x4 + (1 : Int32))), (3, .int y_1), (0, zr G x0), (1, zr G x1), (2, .int x2)] dX10_praiseOf_61 4 rfl rfl (Nat.le_of_ble_eq_true rfl) rfl ?_
          refine z_goto F 5 dX10_praiseOf_64 rfl ?_
          refine z_ls [(0, zr G x0), (1, zr G x1), (2, .int x2), (3, .int y_1), (4, .int (x4 + (1 : Int32)))] [2, 3, 4, 1, 0] rfl ?_
          exact ih x0 t0 x1 t1 x2 y_1 (x4 + (1 : Int32)) v h

def fX10_praiseOf (x0 : Nat) (x1 : Nat) (x2 : Int32) (v : zV) : Option (Int32 × zV) :=
  fX10_praiseOf_5  zFU x0 x1 x2 (0 : Int32) (0 : Int32) v
set_option maxRecDepth 4000 in
theorem kX10_praiseOf (l : Launch) (G : zG) (x0 : Nat) (t0 : zty G x0 1 10) (x1 : Nat) (t1 : zty G x1 2 0) (x2 : Int32) (v : zV) (r : Int32) (w : zV) (h : fX10_praiseOf x0 x1 x2 v = some (r, w)) : zMet l yX10_praiseOf cX10_praiseOf 5 (Option.some FieldType.int) 1 80 0 0 [zr G x0, zr G x1, .int x2] G v (some (.int r)) w := by
  refine zM_of (own := RX10) (by decide) rfl (Nat.le_of_ble_eq_true rfl) (fun x hl F hr hk hcs => ?_)
  subst hl
  refine z_ls [(0, zr G x0), (1, zr G x1), (2, .int x2)] [0, 1, 2] rfl ?_
  unfold fX10_praiseOf at h
  refine z_iconst (y := (0 : Int32)) F dX10_praiseOf_0 rfl ?_
  refine z_istore_n F [(3, .int (0 : Int32)), (0, zr G x0), (1, zr G x1), (2, .int x2)] dX10_praiseOf_1 rfl (Nat.le_of_ble_eq_true rfl) rfl ?_
  refine z_iconst (y := (0 : Int32)) F dX10_praiseOf_2 rfl ?_
  refine z_istore (n := 0) F [(4, .int (0 : Int32)), (3, .int (0 : Int32)), (0, zr G x0), (1, zr G x1), (2, .int x2)] dX10_praiseOf_3 (Nat.le_of_ble_eq_true rfl) rfl ?_
  refine z_ls [(0, zr G x0), (1, zr G x1), (2, .int x2), (3, .int (0 : Int32)), (4, .int (0 : Int32))] [2, 3, 4, 1, 0] rfl ?_
  exact jX10_praiseOf_5 x G F hr hk r w   zFU x0 t0 x1 t1 x2 (0 : Int32) (0 : Int32) v h

theorem dX10_lastOf_0 : decode cX10_lastOf 0 = .ok (.aload_n 0, 1) := by decide +kernel
theorem dX10_lastOf_1 : decode cX10_lastOf 1 = .ok (.bipush 61, 2) := by decide +kernel
theorem dX10_lastOf_3 : decode cX10_lastOf 3 = .ok (.iaload, 1) := by decide +kernel
theorem dX10_lastOf_4 : decode cX10_lastOf 4 = .ok (.ifCond .ne 7, 3) := by decide +kernel
theorem dX10_lastOf_7 : decode cX10_lastOf 7 = .ok (.iconst (-1), 1) := by decide +kernel
theorem dX10_lastOf_8 : decode cX10_lastOf 8 = .ok (.goto 14, 3) := by decide +kernel
theorem dX10_lastOf_11 : decode cX10_lastOf 11 = .ok (.aload_n 0, 1) := by decide +kernel
theorem dX10_lastOf_12 : decode cX10_lastOf 12 = .ok (.bipush 48, 2) := by decide +kernel
theorem dX10_lastOf_14 : decode cX10_lastOf 14 = .ok (.aload_n 0, 1) := by decide +kernel
theorem dX10_lastOf_15 : decode cX10_lastOf 15 = .ok (.bipush 61, 2) := by decide +kernel
theorem dX10_lastOf_17 : decode cX10_lastOf 17 = .ok (.iaload, 1) := by decide +kernel
theorem dX10_lastOf_18 : decode cX10_lastOf 18 = .ok (.iadd, 1) := by decide +kernel
theorem dX10_lastOf_19 : decode cX10_lastOf 19 = .ok (.iconst 1, 1) := by decide +kernel
theorem dX10_lastOf_20 : decode cX10_lastOf 20 = .ok (.isub, 1) := by decide +kernel
theorem dX10_lastOf_21 : decode cX10_lastOf 21 = .ok (.iaload, 1) := by decide +kernel
theorem dX10_lastOf_22 : decode cX10_lastOf 22 = .ok (.ireturn, 1) := by decide +kernel
def fX10_lastOf (x0 : Nat) (v : zV) : Option (Int32 × zV) :=
  zix (61 : Int32) (zlen x0) <|
  if (v x0 ((61 : Int32)).toNatClampNeg) = (0 : Int32) then
    some ((-1 : Int32), v)
  else
    zix (61 : Int32) (zlen x0) <|
    zix (((48 : Int32) + (v x0 ((61 : Int32)).toNatClampNeg)) - (1 : Int32)) (zlen x0) <|
    some (v x0 (((48 : Int32) + (v x0 ((61 : Int32)).toNatClampNeg)) - (1 : Int32)).toNatClampNeg, v)
set_option maxRecDepth 4000 in
theorem kX10_lastOf (l : Launch) (G : zG) (x0 : Nat) (t0 : zty G x0 2 0) (v : zV) (r : Int32) (w : zV) (h : fX10_lastOf x0 v = some (r, w)) : zMet l yX10_lastOf cX10_lastOf 1 (Option.some FieldType.int) 1 80 0 0 [zr G x0] G v (some (.int r)) w := by
  refine zM_of (own := RX10) (by decide) rfl (Nat.le_of_ble_eq_true rfl) (fun x hl F hr hk hcs => ?_)
  subst hl
  refine z_ls [(0, zr G x0)] [0] rfl ?_
  unfold fX10_lastOf at h
  refine z_aload_n F dX10_lastOf_0 rfl 0 rfl ?_
  refine z_bipush (y := (61 : Int32)) F dX10_lastOf_1 rfl ?_
  obtain ⟨hi3, h⟩ := zix_ex h
  refine z_iald F t0 dX10_lastOf_3 hi3 ?_
  refine z_if_ne F 11 dX10_lastOf_4 rfl (fun hc => ?_) (fun hc => ?_)
  · replace h := zif_f hc h
    refine z_aload_n F dX10_lastOf_11 rfl 0 rfl ?_
    refine z_bipush (y := (48 : Int32)) F dX10_lastOf_12 rfl ?_
    refine z_aload_n F dX10_lastOf_14 rfl 0 rfl ?_
    refine z_bipush (y := (61 : Int32)) F dX10_lastOf_15 rfl ?_
    obtain ⟨hi17, h⟩ := zix_ex h
    refine z_iald F t0 dX10_lastOf_17 hi17 ?_
    refine z_iadd F dX10_lastOf_18 ?_
    refine z_iconst (y := (1 : Int32)) F dX10_lastOf_19 rfl ?_
    refine z_isub F dX10_lastOf_20 ?_
    obtain ⟨hi21, h⟩ := zix_ex h
    refine z_iald F t0 dX10_lastOf_21 hi21 ?_
    cases h
    exact z_reti F hr hk dX10_lastOf_22
  · replace h := zif_t hc h
    refine z_iconst (y := (-1 : Int32)) F dX10_lastOf_7 rfl ?_
    refine z_goto F 22 dX10_lastOf_8 rfl ?_
    cases h
    exact z_reti F hr hk dX10_lastOf_22

theorem dX10_scoreOf_0 : decode cX10_scoreOf 0 = .ok (.aload_n 1, 1) := by decide +kernel
theorem dX10_scoreOf_1 : decode cX10_scoreOf 1 = .ok (.bipush 61, 2) := by decide +kernel
theorem dX10_scoreOf_3 : decode cX10_scoreOf 3 = .ok (.iaload, 1) := by decide +kernel
theorem dX10_scoreOf_4 : decode cX10_scoreOf 4 = .ok (.ifCond .ne 5, 3) := by decide +kernel
theorem dX10_scoreOf_7 : decode cX10_scoreOf 7 = .ok (.iconst 0, 1) := by decide +kernel
theorem dX10_scoreOf_8 : decode cX10_scoreOf 8 = .ok (.ireturn, 1) := by decide +kernel
theorem dX10_scoreOf_9 : decode cX10_scoreOf 9 = .ok (.aload_n 0, 1) := by decide +kernel
theorem dX10_scoreOf_10 : decode cX10_scoreOf 10 = .ok (.getfield 82, 3) := by decide +kernel
theorem dX10_scoreOf_13 : decode cX10_scoreOf 13 = .ok (.iconst 0, 1) := by decide +kernel
theorem dX10_scoreOf_14 : decode cX10_scoreOf 14 = .ok (.aload_n 0, 1) := by decide +kernel
theorem dX10_scoreOf_15 : decode cX10_scoreOf 15 = .ok (.iload_n 2, 1) := by decide +kernel
theorem dX10_scoreOf_16 : decode cX10_scoreOf 16 = .ok (.aload_n 1, 1) := by decide +kernel
theorem dX10_scoreOf_17 : decode cX10_scoreOf 17 = .ok (.invokestatic 313, 3) := by decide +kernel
theorem dX10_scoreOf_20 : decode cX10_scoreOf 20 = .ok (.invokevirtual 307, 3) := by decide +kernel
theorem dX10_scoreOf_23 : decode cX10_scoreOf 23 = .ok (.iastore, 1) := by decide +kernel
theorem dX10_scoreOf_24 : decode cX10_scoreOf 24 = .ok (.aload_n 0, 1) := by decide +kernel
theorem dX10_scoreOf_25 : decode cX10_scoreOf 25 = .ok (.getfield 82, 3) := by decide +kernel
theorem dX10_scoreOf_28 : decode cX10_scoreOf 28 = .ok (.iconst 1, 1) := by decide +kernel
theorem dX10_scoreOf_29 : decode cX10_scoreOf 29 = .ok (.aload_n 0, 1) := by decide +kernel
theorem dX10_scoreOf_30 : decode cX10_scoreOf 30 = .ok (.getfield 23, 3) := by decide +kernel
theorem dX10_scoreOf_33 : decode cX10_scoreOf 33 = .ok (.iconst 0, 1) := by decide +kernel
theorem dX10_scoreOf_34 : decode cX10_scoreOf 34 = .ok (.iaload, 1) := by decide +kernel
theorem dX10_scoreOf_35 : decode cX10_scoreOf 35 = .ok (.aload_n 0, 1) := by decide +kernel
theorem dX10_scoreOf_36 : decode cX10_scoreOf 36 = .ok (.getfield 82, 3) := by decide +kernel
theorem dX10_scoreOf_39 : decode cX10_scoreOf 39 = .ok (.iconst 0, 1) := by decide +kernel
theorem dX10_scoreOf_40 : decode cX10_scoreOf 40 = .ok (.iaload, 1) := by decide +kernel
theorem dX10_scoreOf_41 : decode cX10_scoreOf 41 = .ok (.isub, 1) := by decide +kernel
theorem dX10_scoreOf_42 : decode cX10_scoreOf 42 = .ok (.iastore, 1) := by decide +kernel
theorem dX10_scoreOf_43 : decode cX10_scoreOf 43 = .ok (.aload_n 0, 1) := by decide +kernel
theorem dX10_scoreOf_44 : decode cX10_scoreOf 44 = .ok (.getfield 82, 3) := by decide +kernel
theorem dX10_scoreOf_47 : decode cX10_scoreOf 47 = .ok (.iconst 2, 1) := by decide +kernel
theorem dX10_scoreOf_48 : decode cX10_scoreOf 48 = .ok (.aload_n 1, 1) := by decide +kernel
theorem dX10_scoreOf_49 : decode cX10_scoreOf 49 = .ok (.bipush 16, 2) := by decide +kernel
theorem dX10_scoreOf_51 : decode cX10_scoreOf 51 = .ok (.iload_n 2, 1) := by decide +kernel
theorem dX10_scoreOf_52 : decode cX10_scoreOf 52 = .ok (.iadd, 1) := by decide +kernel
theorem dX10_scoreOf_53 : decode cX10_scoreOf 53 = .ok (.iaload, 1) := by decide +kernel
theorem dX10_scoreOf_54 : decode cX10_scoreOf 54 = .ok (.iastore, 1) := by decide +kernel
theorem dX10_scoreOf_55 : decode cX10_scoreOf 55 = .ok (.aload_n 0, 1) := by decide +kernel
theorem dX10_scoreOf_56 : decode cX10_scoreOf 56 = .ok (.getfield 82, 3) := by decide +kernel
theorem dX10_scoreOf_59 : decode cX10_scoreOf 59 = .ok (.iconst 3, 1) := by decide +kernel
theorem dX10_scoreOf_60 : decode cX10_scoreOf 60 = .ok (.aload_n 0, 1) := by decide +kernel
theorem dX10_scoreOf_61 : decode cX10_scoreOf 61 = .ok (.getfield 35, 3) := by decide +kernel
theorem dX10_scoreOf_64 : decode cX10_scoreOf 64 = .ok (.iload_n 2, 1) := by decide +kernel
theorem dX10_scoreOf_65 : decode cX10_scoreOf 65 = .ok (.iaload, 1) := by decide +kernel
theorem dX10_scoreOf_66 : decode cX10_scoreOf 66 = .ok (.aload_n 1, 1) := by decide +kernel
theorem dX10_scoreOf_67 : decode cX10_scoreOf 67 = .ok (.bipush 99, 2) := by decide +kernel
theorem dX10_scoreOf_69 : decode cX10_scoreOf 69 = .ok (.iaload, 1) := by decide +kernel
theorem dX10_scoreOf_70 : decode cX10_scoreOf 70 = .ok (.iadd, 1) := by decide +kernel
theorem dX10_scoreOf_71 : decode cX10_scoreOf 71 = .ok (.iconst 1, 1) := by decide +kernel
theorem dX10_scoreOf_72 : decode cX10_scoreOf 72 = .ok (.isub, 1) := by decide +kernel
theorem dX10_scoreOf_73 : decode cX10_scoreOf 73 = .ok (.iastore, 1) := by decide +kernel
theorem dX10_scoreOf_74 : decode cX10_scoreOf 74 = .ok (.aload_n 0, 1) := by decide +kernel
theorem dX10_scoreOf_75 : decode cX10_scoreOf 75 = .ok (.getfield 82, 3) := by decide +kernel
theorem dX10_scoreOf_78 : decode cX10_scoreOf 78 = .ok (.iconst 4, 1) := by decide +kernel
theorem dX10_scoreOf_79 : decode cX10_scoreOf 79 = .ok (.iload_n 2, 1) := by decide +kernel
theorem dX10_scoreOf_80 : decode cX10_scoreOf 80 = .ok (.iastore, 1) := by decide +kernel
theorem dX10_scoreOf_81 : decode cX10_scoreOf 81 = .ok (.aload_n 0, 1) := by decide +kernel
theorem dX10_scoreOf_82 : decode cX10_scoreOf 82 = .ok (.getfield 82, 3) := by decide +kernel
theorem dX10_scoreOf_85 : decode cX10_scoreOf 85 = .ok (.iconst 5, 1) := by decide +kernel
theorem dX10_scoreOf_86 : decode cX10_scoreOf 86 = .ok (.aload_n 1, 1) := by decide +kernel
theorem dX10_scoreOf_87 : decode cX10_scoreOf 87 = .ok (.bipush 99, 2) := by decide +kernel
theorem dX10_scoreOf_89 : decode cX10_scoreOf 89 = .ok (.iaload, 1) := by decide +kernel
theorem dX10_scoreOf_90 : decode cX10_scoreOf 90 = .ok (.iastore, 1) := by decide +kernel
theorem dX10_scoreOf_91 : decode cX10_scoreOf 91 = .ok (.aload_n 0, 1) := by decide +kernel
theorem dX10_scoreOf_92 : decode cX10_scoreOf 92 = .ok (.getfield 82, 3) := by decide +kernel
theorem dX10_scoreOf_95 : decode cX10_scoreOf 95 = .ok (.bipush 6, 2) := by decide +kernel
theorem dX10_scoreOf_97 : decode cX10_scoreOf 97 = .ok (.aload_n 1, 1) := by decide +kernel
theorem dX10_scoreOf_98 : decode cX10_scoreOf 98 = .ok (.bipush 61, 2) := by decide +kernel
theorem dX10_scoreOf_100 : decode cX10_scoreOf 100 = .ok (.iaload, 1) := by decide +kernel
theorem dX10_scoreOf_101 : decode cX10_scoreOf 101 = .ok (.iastore, 1) := by decide +kernel
theorem dX10_scoreOf_102 : decode cX10_scoreOf 102 = .ok (.aload_n 0, 1) := by decide +kernel
theorem dX10_scoreOf_103 : decode cX10_scoreOf 103 = .ok (.invokevirtual 317, 3) := by decide +kernel
theorem dX10_scoreOf_106 : decode cX10_scoreOf 106 = .ok (.aload_n 0, 1) := by decide +kernel
theorem dX10_scoreOf_107 : decode cX10_scoreOf 107 = .ok (.aload_n 1, 1) := by decide +kernel
theorem dX10_scoreOf_108 : decode cX10_scoreOf 108 = .ok (.iload_n 2, 1) := by decide +kernel
theorem dX10_scoreOf_109 : decode cX10_scoreOf 109 = .ok (.invokevirtual 320, 3) := by decide +kernel
theorem dX10_scoreOf_112 : decode cX10_scoreOf 112 = .ok (.iadd, 1) := by decide +kernel
theorem dX10_scoreOf_113 : decode cX10_scoreOf 113 = .ok (.ireturn, 1) := by decide +kernel
def fX10_scoreOf (x0 : Nat) (x1 : Nat) (x2 : Int32) (v : zV) : Option (Int32 × zV) :=
  zix (61 : Int32) (zlen x1) <|
  if (v x1 ((61 : Int32)).toNatClampNeg) = (0 : Int32) then
    some ((0 : Int32), v)
  else
    zbind (fX10_lastOf x1 v) fun r_2 v_1 =>
    zbind (fX10_differsOf x0 x2 r_2 v_1) fun r_4 v_3 =>
    zix (0 : Int32) (zlen (zrf x0 34)) <|
    zlet (zup v_3 (zrf x0 34) ((0 : Int32)).toNatClampNeg r_4) fun v_5 =>
    zix (0 : Int32) (zlen (zrf x0 12)) <|
    zix (0 : Int32) (zlen (zrf x0 34)) <|
    zix (1 : Int32) (zlen (zrf x0 34)) <|
    zlet (zup v_5 (zrf x0 34) ((1 : Int32)).toNatClampNeg ((v_5 (zrf x0 12) ((0 : Int32)).toNatClampNeg) - (v_5 (zrf x0 34) ((0 : Int32)).toNatClampNeg))) fun v_6 =>
    zix ((16 : Int32) + x2) (zlen x1) <|
    zix (2 : Int32) (zlen (zrf x0 34)) <|
    zlet (zup v_6 (zrf x0 34) ((2 : Int32)).toNatClampNeg (v_6 x1 ((16 : Int32) + x2).toNatClampNeg)) fun v_7 =>
    zix x2 (zlen (zrf x0 16)) <|
    zix (99 : Int32) (zlen x1) <|
    zix (3 : Int32) (zlen (zrf x0 34)) <|
    zlet (zup v_7 (zrf x0 34) ((3 : Int32)).toNatClampNeg (((v_7 (zrf x0 16) (x2).toNatClampNeg) + (v_7 x1 ((99 : Int32)).toNatClampNeg)) - (1 : Int32))) fun v_8 =>
    zix (4 : Int32) (zlen (zrf x0 34)) <|
    zlet (zup v_8 (zrf x0 34) ((4 : Int32)).toNatClampNeg x2) fun v_9 =>
    zix (99 : Int32) (zlen x1) <|
    zix (5 : Int32) (zlen (zrf x0 34)) <|
    zlet (zup v_9 (zrf x0 34) ((5 : Int32)).toNatClampNeg (v_9 x1 ((99 : Int32)).toNatClampNeg)) fun v_10 =>
    zix (61 : Int32) (zlen x1) <|
    zix (6 : Int32) (zlen (zrf x0 34)) <|
    zlet (zup v_10 (zrf x0 34) ((6 : Int32)).toNatClampNeg (v_10 x1 ((61 : Int32)).toNatClampNeg)) fun v_11 =>
    zbind (fX10_byLaw x0 v_11) fun r_13 v_12 =>
    zbind (fX10_praiseOf x0 x1 x2 v_12) fun r_15 v_14 =>
    some (r_13 + r_15, v_14)
set_option maxRecDepth 4000 in
theorem kX10_scoreOf (l : Launch) (G : zG) (x0 : Nat) (t0 : zty G x0 1 10) (x1 : Nat) (t1 : zty G x1 2 0) (x2 : Int32) (v : zV) (r : Int32) (w : zV) (h : fX10_scoreOf x0 x1 x2 v = some (r, w)) : zMet l yX10_scoreOf cX10_scoreOf 3 (Option.some FieldType.int) 4 145 0 0 [zr G x0, zr G x1, .int x2] G v (some (.int r)) w := by
  refine zM_of (own := RX10) (by decide) rfl (Nat.le_of_ble_eq_true rfl) (fun x hl F hr hk hcs => ?_)
  subst hl
  refine z_ls [(0, zr G x0), (1, zr G x1), (2, .int x2)] [0, 1, 2] rfl ?_
  unfold fX10_scoreOf at h
  refine z_aload_n F dX10_scoreOf_0 rfl 1 rfl ?_
  refine z_bipush (y := (61 : Int32)) F dX10_scoreOf_1 rfl ?_
  obtain ⟨hi3, h⟩ := zix_ex h
  refine z_iald F t1 dX10_scoreOf_3 hi3 ?_
  refine z_if_ne F 9 dX10_scoreOf_4 rfl (fun hc => ?_) (fun hc => ?_)
  · replace h := zif_f hc h
    refine z_aload_n F dX10_scoreOf_9 rfl 0 rfl ?_
    refine zg_10_34 F t0 wF_X10_82 dX10_scoreOf_10 ?_
    refine z_iconst (y := (0 : Int32)) F dX10_scoreOf_13 rfl ?_
    refine z_aload_n F dX10_scoreOf_14 rfl 0 rfl ?_
    refine z_iload_n F dX10_scoreOf_15 rfl 2 rfl ?_
    refine z_aload_n F dX10_scoreOf_16 rfl 1 rfl ?_
    obtain ⟨r_2, v_1, hq17, h⟩ := zbind_ex h
    refine z_callSi F [zr G x1] [.int x2, zr G x0, .int (0 : Int32), zr G (zrf x0 34)] (kX10_lastOf x.2.1 G x1 t1 v r_2 v_1 hq17) mI_X10_lastOf wM_X10_313 ms_X10_lastOf dX10_scoreOf_17 rfl ⟨Nat.le_of_ble_eq_true rfl, Nat.le_of_ble_eq_true rfl⟩ rfl (Nat.le_of_ble_eq_true rfl) ⟨Nat.zero_le _, Nat.zero_le _⟩ ?_
    obtain ⟨r_4, v_3, hq20, h⟩ := zbind_ex h
    refine z_callVi F [.int x2, .int r_2] [.int (0 : Int32), zr G (zrf x0 34)] (kX10_differsOf x.2.1 G x0 t0 x2 r_2 v_1 r_4 v_3 hq20) mI_X10_differsOf (c := 10) rfl t0 wM_X10_307 mi_X10_differsOf sl_X10_differsOf dX10_scoreOf_20 rfl ⟨Nat.le_of_ble_eq_true rfl, Nat.le_of_ble_eq_true rfl⟩ rfl (Nat.le_of_ble_eq_true rfl) ⟨Nat.zero_le _, Nat.zero_le _⟩ ?_
    obtain ⟨hi23, h⟩ := zix_ex h
    refine z_iast F (zt_f tc_10_34 t0) dX10_scoreOf_23 hi23 ?_
    obtain ⟨v_5, ev_5, h⟩ := zlet_ex h
    refine z_heap ev_5 ?_
    refine z_aload_n F dX10_scoreOf_24 rfl 0 rfl ?_
    refine zg_10_34 F t0 wF_X10_82 dX10_scoreOf_25 ?_
    refine z_iconst (y := (1 : Int32)) F dX10_scoreOf_28 rfl ?_
    refine z_aload_n F dX10_scoreOf_29 rfl 0 rfl ?_
    refine zg_10_12 F t0 wF_X10_23 dX10_scoreOf_30 ?_
    refine z_iconst (y := (0 : Int32)) F dX10_scoreOf_33 rfl ?_
    obtain ⟨hi34, h⟩ := zix_ex h
    refine z_iald F (zt_f tc_10_12 t0) dX10_scoreOf_34 hi34 ?_
    refine z_aload_n F dX10_scoreOf_35 rfl 0 rfl ?_
    refine zg_10_34 F t0 wF_X10_82 dX10_scoreOf_36 ?_
    refine z_iconst (y := (0 : Int32)) F dX10_scoreOf_39 rfl ?_
    obtain ⟨hi40, h⟩ := zix_ex h
    refine z_iald F (zt_f tc_10_34 t0) dX10_scoreOf_40 hi40 ?_
    refine z_isub F dX10_scoreOf_41 ?_
    obtain ⟨hi42, h⟩ := zix_ex h
    refine z_iast F (zt_f tc_10_34 t0) dX10_scoreOf_42 hi42 ?_
    obtain ⟨v_6, ev_6, h⟩ := zlet_ex h
    refine z_heap ev_6 ?_
    refine z_aload_n F dX10_scoreOf_43 rfl 0 rfl ?_
    refine zg_10_34 F t0 wF_X10_82 dX10_scoreOf_44 ?_
    refine z_iconst (y := (2 : Int32)) F dX10_scoreOf_47 rfl ?_
    refine z_aload_n F dX10_scoreOf_48 rfl 1 rfl ?_
    refine z_bipush (y := (16 : Int32)) F dX10_scoreOf_49 rfl ?_
    refine z_iload_n F dX10_scoreOf_51 rfl 2 rfl ?_
    refine z_iadd F dX10_scoreOf_52 ?_
    obtain ⟨hi53, h⟩ := zix_ex h
    refine z_iald F t1 dX10_scoreOf_53 hi53 ?_
    obtain ⟨hi54, h⟩ := zix_ex h
    refine z_iast F (zt_f tc_10_34 t0) dX10_scoreOf_54 hi54 ?_
    obtain ⟨v_7, ev_7, h⟩ := zlet_ex h
    refine z_heap ev_7 ?_
    refine z_aload_n F dX10_scoreOf_55 rfl 0 rfl ?_
    refine zg_10_34 F t0 wF_X10_82 dX10_scoreOf_56 ?_
    refine z_iconst (y := (3 : Int32)) F dX10_scoreOf_59 rfl ?_
    refine z_aload_n F dX10_scoreOf_60 rfl 0 rfl ?_
    refine zg_10_16 F t0 wF_X10_35 dX10_scoreOf_61 ?_
    refine z_iload_n F dX10_scoreOf_64 rfl 2 rfl ?_
    obtain ⟨hi65, h⟩ := zix_ex h
    refine z_iald F (zt_f tc_10_16 t0) dX10_scoreOf_65 hi65 ?_
    refine z_aload_n F dX10_scoreOf_66 rfl 1 rfl ?_
    refine z_bipush (y := (99 : Int32)) F dX10_scoreOf_67 rfl ?_
    obtain ⟨hi69, h⟩ := zix_ex h
    refine z_iald F t1 dX10_scoreOf_69 hi69 ?_
    refine z_iadd F dX10_scoreOf_70 ?_
    refine z_iconst (y := (1 : Int32)) F dX10_scoreOf_71 rfl ?_
    refine z_isub F dX10_scoreOf_72 ?_
    obtain ⟨hi73, h⟩ := zix_ex h
    refine z_iast F (zt_f tc_10_34 t0) dX10_scoreOf_73 hi73 ?_
    obtain ⟨v_8, ev_8, h⟩ := zlet_ex h
    refine z_heap ev_8 ?_
    refine z_aload_n F dX10_scoreOf_74 rfl 0 rfl ?_
    refine zg_10_34 F t0 wF_X10_82 dX10_scoreOf_75 ?_
    refine z_iconst (y := (4 : Int32)) F dX10_scoreOf_78 rfl ?_
    refine z_iload_n F dX10_scoreOf_79 rfl 2 rfl ?_
    obtain ⟨hi80, h⟩ := zix_ex h
    refine z_iast F (zt_f tc_10_34 t0) dX10_scoreOf_80 hi80 ?_
    obtain ⟨v_9, ev_9, h⟩ := zlet_ex h
    refine z_heap ev_9 ?_
    refine z_aload_n F dX10_scoreOf_81 rfl 0 rfl ?_
    refine zg_10_34 F t0 wF_X10_82 dX10_scoreOf_82 ?_
    refine z_iconst (y := (5 : Int32)) F dX10_scoreOf_85 rfl ?_
    refine z_aload_n F dX10_scoreOf_86 rfl 1 rfl ?_
    refine z_bipush (y := (99 : Int32)) F dX10_scoreOf_87 rfl ?_
    obtain ⟨hi89, h⟩ := zix_ex h
    refine z_iald F t1 dX10_scoreOf_89 hi89 ?_
    obtain ⟨hi90, h⟩ := zix_ex h
    refine z_iast F (zt_f tc_10_34 t0) dX10_scoreOf_90 hi90 ?_
    obtain ⟨v_10, ev_10, h⟩ := zlet_ex h
    refine z_heap ev_10 ?_
    refine z_aload_n F dX10_scoreOf_91 rfl 0 rfl ?_
    refine zg_10_34 F t0 wF_X10_82 dX10_scoreOf_92 ?_
    refine z_bipush (y := (6 : Int32)) F dX10_scoreOf_95 rfl ?_
    refine z_aload_n F dX10_scoreOf_97 rfl 1 rfl ?_
    refine z_bipush (y := (61 : Int32)) F dX10_scoreOf_98 rfl ?_
    obtain ⟨hi100, h⟩ := zix_ex h
    refine z_iald F t1 dX10_scoreOf_100 hi100 ?_
    obtain ⟨hi101, h⟩ := zix_ex h
    refine z_iast F (zt_f tc_10_34 t0) dX10_scoreOf_101 hi101 ?_
    obtain ⟨v_11, ev_11, h⟩ := zlet_ex h
    refine z_heap ev_11 ?_
    refine z_aload_n F dX10_scoreOf_102 rfl 0 rfl ?_
    obtain ⟨r_13, v_12, hq103, h⟩ := zbind_ex h
    refine z_callVi F [] [] (kX10_byLaw x.2.1 G x0 t0 v_11 r_13 v_12 hq103) mI_X10_byLaw (c := 10) rfl t0 wM_X10_317 mi_X10_byLaw sl_X10_byLaw dX10_scoreOf_103 rfl ⟨Nat.le_of_ble_eq_true rfl, Nat.le_of_ble_eq_true rfl⟩ rfl (Nat.le_of_ble_eq_true rfl) ⟨Nat.zero_le _, Nat.zero_le _⟩ ?_
    refine z_aload_n F dX10_scoreOf_106 rfl 0 rfl ?_
    refine z_aload_n F dX10_scoreOf_107 rfl 1 rfl ?_
    refine z_iload_n F dX10_scoreOf_108 rfl 2 rfl ?_
    obtain ⟨r_15, v_14, hq109, h⟩ := zbind_ex h
    refine z_callVi F [zr G x1, .int x2] [.int r_13] (kX10_praiseOf x.2.1 G x0 t0 x1 t1 x2 v_12 r_15 v_14 hq109) mI_X10_praiseOf (c := 10) rfl t0 wM_X10_320 mi_X10_praiseOf sl_X10_praiseOf dX10_scoreOf_109 rfl ⟨Nat.le_of_ble_eq_true rfl, Nat.le_of_ble_eq_true rfl⟩ rfl (Nat.le_of_ble_eq_true rfl) ⟨Nat.zero_le _, Nat.zero_le _⟩ ?_
    refine z_iadd F dX10_scoreOf_112 ?_
    cases h
    exact z_reti F hr hk dX10_scoreOf_113
  · replace h := zif_t hc h
    refine z_iconst (y := (0 : Int32)) F dX10_scoreOf_7 rfl ?_
    cases h
    exact z_reti F hr hk dX10_scoreOf_8

theorem dX10_score_0 : decode cX10_score 0 = .ok (.aload_n 0, 1) := by decide +kernel
theorem dX10_score_1 : decode cX10_score 1 = .ok (.iconst 0, 1) := by decide +kernel
theorem dX10_score_2 : decode cX10_score 2 = .ok (.putfield 134, 3) := by decide +kernel
theorem dX10_score_5 : decode cX10_score 5 = .ok (.aload_n 0, 1) := by decide +kernel
theorem dX10_score_6 : decode cX10_score 6 = .ok (.aload_n 0, 1) := by decide +kernel
theorem dX10_score_7 : decode cX10_score 7 = .ok (.iload_n 1, 1) := by decide +kernel
theorem dX10_score_8 : decode cX10_score 8 = .ok (.invokevirtual 298, 3) := by decide +kernel
theorem dX10_score_11 : decode cX10_score 11 = .ok (.ifCond .ne 7, 3) := by decide +kernel
theorem dX10_score_14 : decode cX10_score 14 = .ok (.iconst 1, 1) := by decide +kernel
theorem dX10_score_15 : decode cX10_score 15 = .ok (.goto 4, 3) := by decide +kernel
theorem dX10_score_18 : decode cX10_score 18 = .ok (.iconst 0, 1) := by decide +kernel
theorem dX10_score_19 : decode cX10_score 19 = .ok (.iconst 1, 1) := by decide +kernel
theorem dX10_score_20 : decode cX10_score 20 = .ok (.iconst 0, 1) := by decide +kernel
theorem dX10_score_21 : decode cX10_score 21 = .ok (.invokevirtual 220, 3) := by decide +kernel
theorem dX10_score_24 : decode cX10_score 24 = .ok (.ifCond .eq 5, 3) := by decide +kernel
theorem dX10_score_27 : decode cX10_score 27 = .ok (.iconst 0, 1) := by decide +kernel
theorem dX10_score_28 : decode cX10_score 28 = .ok (.ireturn, 1) := by decide +kernel
theorem dX10_score_29 : decode cX10_score 29 = .ok (.aload_n 0, 1) := by decide +kernel
theorem dX10_score_30 : decode cX10_score 30 = .ok (.aload_n 0, 1) := by decide +kernel
theorem dX10_score_31 : decode cX10_score 31 = .ok (.getfield 85, 3) := by decide +kernel
theorem dX10_score_34 : decode cX10_score 34 = .ok (.iload_n 1, 1) := by decide +kernel
theorem dX10_score_35 : decode cX10_score 35 = .ok (.invokevirtual 323, 3) := by decide +kernel
theorem dX10_score_38 : decode cX10_score 38 = .ok (.ireturn, 1) := by decide +kernel
def fX10_score_19  (x0 : Nat) (x1 : Int32) (s0 : Nat) (s1 : Int32) (v : zV) : Option (Int32 × zV) :=
  zbind (fX10_bad s0 s1 (1 : Int32) (0 : Int32) v) fun r_2 v_1 =>
  if r_2 = (0 : Int32) then
    zbind (fX10_scoreOf x0 (zrf x0 35) x1 v_1) fun r_4 v_3 =>
    some (r_4, v_3)
  else
    some ((0 : Int32), v_1)
set_option maxRecDepth 4000 in
theorem jX10_score_19 (x : zCx) (G : zG) (F : zF x G cX10_score 2 RX10 5 167) (hr : x.2.2.2.2.2.2.2.2.1.sig.returnType = (Option.some FieldType.int)) (hk : x.2.2.2.2.2.2.2.2.1.locks = false) (r : Int32) (w : zV)  : ∀ (x0 : Nat) (t0 : zty G x0 1 10) (x1 : Int32) (s0 : Nat) (ts0 : zty G s0 1 10) (s1 : Int32) (v : zV), fX10_score_19 x0 x1 s0 s1 v = some (r, w) → zJ x G 2 (zQ x G (some (.int r)) w 0 0) 0 0 19 [(0, zr G x0), (1, .int x1)] [.int s1, zr G s0] v := by
  intro x0 t0 x1 s0 ts0 s1 v h
  unfold fX10_score_19 at h
  refine z_iconst (y := (1 : Int32)) F dX10_score_19 rfl ?_
  refine z_iconst (y := (0 : Int32)) F dX10_score_20 rfl ?_
  obtain ⟨r_2, v_1, hq21, h⟩ := zbind_ex h
  refine z_callVi F [.int s1, .int (1 : Int32), .int (0 : Int32)] [] (kX10_bad x.2.1 G s0 ts0 s1 (1 : Int32) (0 : Int32) v r_2 v_1 hq21) mI_X10_bad (c := 10) rfl ts0 wM_X10_220 mi_X10_bad sl_X10_bad dX10_score_21 rfl ⟨Nat.le_of_ble_eq_true rfl, Nat.le_of_ble_eq_true rfl⟩ rfl (Nat.le_of_ble_eq_true rfl) ⟨Nat.zero_le _, Nat.zero_le _⟩ ?_
  refine z_if_eq F 29 dX10_score_24 rfl (fun hc => ?_) (fun hc => ?_)
  · replace h := zif_t hc h
    refine z_aload_n F dX10_score_29 rfl 0 rfl ?_
    refine z_aload_n F dX10_score_30 rfl 0 rfl ?_
    refine zg_10_35 F t0 wF_X10_85 dX10_score_31 ?_
    refine z_iload_n F dX10_score_34 rfl 1 rfl ?_
    obtain ⟨r_4, v_3, hq35, h⟩ := zbind_ex h
    refine z_callVi F [zr G (zrf x0 35), .int x1] [] (kX10_scoreOf x.2.1 G x0 t0 (zrf x0 35) (zt_f tc_10_35 t0) x1 v_1 r_4 v_3 hq35) mI_X10_scoreOf (c := 10) rfl t0 wM_X10_323 mi_X10_scoreOf sl_X10_scoreOf dX10_score_35 rfl ⟨Nat.le_of_ble_eq_true rfl, Nat.le_of_ble_eq_true rfl⟩ rfl (Nat.le_of_ble_eq_true rfl) ⟨Nat.zero_le _, Nat.zero_le _⟩ ?_
    cases h
    exact z_reti F hr hk dX10_score_38
  · replace h := zif_f hc h
    refine z_iconst (y := (0 : Int32)) F dX10_score_27 rfl ?_
    cases h
    exact z_reti F hr hk dX10_score_28

def fX10_score (x0 : Nat) (x1 : Int32) (v : zV) : Option (Int32 × zV) :=
  zlet (zup v x0 0 (0 : Int32)) fun v_1 =>
  zbind (fX10_isMan x0 x1 v_1) fun r_3 v_2 =>
  if r_3 = (0 : Int32) then
    fX10_score_19  x0 x1 x0 (1 : Int32) v_2
  else
    fX10_score_19  x0 x1 x0 (0 : Int32) v_2
set_option maxRecDepth 4000 in
theorem kX10_score (l : Launch) (G : zG) (x0 : Nat) (t0 : zty G x0 1 10) (x1 : Int32) (v : zV) (r : Int32) (w : zV) (h : fX10_score x0 x1 v = some (r, w)) : zMet l yX10_score cX10_score 2 (Option.some FieldType.int) 5 167 0 0 [zr G x0, .int x1] G v (some (.int r)) w := by
  refine zM_of (own := RX10) (by decide) rfl (Nat.le_of_ble_eq_true rfl) (fun x hl F hr hk hcs => ?_)
  subst hl
  refine z_ls [(0, zr G x0), (1, .int x1)] [0, 1] rfl ?_
  unfold fX10_score at h
  refine z_aload_n F dX10_score_0 rfl 0 rfl ?_
  refine z_iconst (y := (0 : Int32)) F dX10_score_1 rfl ?_
  refine zp_10_0 F t0 wF_X10_134 dX10_score_2 ?_
  obtain ⟨v_1, ev_1, h⟩ := zlet_ex h
  refine z_heap ev_1 ?_
  refine z_aload_n F dX10_score_5 rfl 0 rfl ?_
  refine z_aload_n F dX10_score_6 rfl 0 rfl ?_
  refine z_iload_n F dX10_score_7 rfl 1 rfl ?_
  obtain ⟨r_3, v_2, hq8, h⟩ := zbind_ex h
  refine z_callVi F [.int x1] [zr G x0] (kX10_isMan x.2.1 G x0 t0 x1 v_1 r_3 v_2 hq8) mI_X10_isMan (c := 10) rfl t0 wM_X10_298 mi_X10_isMan sl_X10_isMan dX10_score_8 rfl ⟨Nat.le_of_ble_eq_true rfl, Nat.le_of_ble_eq_true rfl⟩ rfl (Nat.le_of_ble_eq_true rfl) ⟨Nat.zero_le _, Nat.zero_le _⟩ ?_
  refine z_if_ne F 18 dX10_score_11 rfl (fun hc => ?_) (fun hc => ?_)
  · replace h := zif_f hc h
    refine z_iconst (y := (0 : Int32)) F dX10_score_18 rfl ?_
    refine z_ls [(0, zr G x0), (1, .int x1)] [0, 1] rfl ?_
    exact jX10_score_19 x G F hr hk r w   x0 t0 x1 x0 t0 (0 : Int32) v_2 h
  · replace h := zif_t hc h
    refine z_iconst (y := (1 : Int32)) F dX10_score_14 rfl ?_
    refine z_goto F 19 dX10_score_15 rfl ?_
    refine z_ls [(0, zr G x0), (1, .int x1)] [0, 1] rfl ?_
    exact jX10_score_19 x G F hr hk r w   x0 t0 x1 x0 t0 (1 : Int32) v_2 h

theorem dX10_chosen_0 : decode cX10_chosen 0 = .ok (.iconst (-1), 1) := by decide +kernel
theorem dX10_chosen_1 : decode cX10_chosen 1 = .ok (.istore_n 2, 1) := by decide +kernel
theorem dX10_chosen_2 : decode cX10_chosen 2 = .ok (.iconst 0, 1) := by decide +kernel
theorem dX10_chosen_3 : decode cX10_chosen 3 = .ok (.istore_n 3, 1) := by decide +kernel
theorem dX10_chosen_4 : decode cX10_chosen 4 = .ok (.iconst 0, 1) := by decide +kernel
theorem dX10_chosen_5 : decode cX10_chosen 5 = .ok (.istore 4, 2) := by decide +kernel
theorem dX10_chosen_7 : decode cX10_chosen 7 = .ok (.iload 4, 2) := by decide +kernel
theorem dX10_chosen_9 : decode cX10_chosen 9 = .ok (.aload_n 0, 1) := by decide +kernel
theorem dX10_chosen_10 : decode cX10_chosen 10 = .ok (.getfield 23, 3) := by decide +kernel
theorem dX10_chosen_13 : decode cX10_chosen 13 = .ok (.iconst 1, 1) := by decide +kernel
theorem dX10_chosen_14 : decode cX10_chosen 14 = .ok (.iaload, 1) := by decide +kernel
theorem dX10_chosen_15 : decode cX10_chosen 15 = .ok (.if_icmp .ge 113, 3) := by decide +kernel
theorem dX10_chosen_18 : decode cX10_chosen 18 = .ok (.aload_n 1, 1) := by decide +kernel
theorem dX10_chosen_19 : decode cX10_chosen 19 = .ok (.iconst 0, 1) := by decide +kernel
theorem dX10_chosen_20 : decode cX10_chosen 20 = .ok (.iload 4, 2) := by decide +kernel
theorem dX10_chosen_22 : decode cX10_chosen 22 = .ok (.iadd, 1) := by decide +kernel
theorem dX10_chosen_23 : decode cX10_chosen 23 = .ok (.iaload, 1) := by decide +kernel
theorem dX10_chosen_24 : decode cX10_chosen 24 = .ok (.ifCond .eq 6, 3) := by decide +kernel
theorem dX10_chosen_27 : decode cX10_chosen 27 = .ok (.goto 95, 3) := by decide +kernel
theorem dX10_chosen_30 : decode cX10_chosen 30 = .ok (.aload_n 1, 1) := by decide +kernel
theorem dX10_chosen_31 : decode cX10_chosen 31 = .ok (.bipush 61, 2) := by decide +kernel
theorem dX10_chosen_33 : decode cX10_chosen 33 = .ok (.iaload, 1) := by decide +kernel
theorem dX10_chosen_34 : decode cX10_chosen 34 = .ok (.ifCond .ne 34, 3) := by decide +kernel
theorem dX10_chosen_37 : decode cX10_chosen 37 = .ok (.iload_n 2, 1) := by decide +kernel
theorem dX10_chosen_38 : decode cX10_chosen 38 = .ok (.iconst (-1), 1) := by decide +kernel
theorem dX10_chosen_39 : decode cX10_chosen 39 = .ok (.if_icmp .eq 19, 3) := by decide +kernel
theorem dX10_chosen_42 : decode cX10_chosen 42 = .ok (.aload_n 0, 1) := by decide +kernel
theorem dX10_chosen_43 : decode cX10_chosen 43 = .ok (.getfield 35, 3) := by decide +kernel
theorem dX10_chosen_46 : decode cX10_chosen 46 = .ok (.iload 4, 2) := by decide +kernel
theorem dX10_chosen_48 : decode cX10_chosen 48 = .ok (.iaload, 1) := by decide +kernel
theorem dX10_chosen_49 : decode cX10_chosen 49 = .ok (.aload_n 0, 1) := by decide +kernel
theorem dX10_chosen_50 : decode cX10_chosen 50 = .ok (.getfield 35, 3) := by decide +kernel
theorem dX10_chosen_53 : decode cX10_chosen 53 = .ok (.iload_n 2, 1) := by decide +kernel
theorem dX10_chosen_54 : decode cX10_chosen 54 = .ok (.iaload, 1) := by decide +kernel
theorem dX10_chosen_55 : decode cX10_chosen 55 = .ok (.if_icmp .le 8, 3) := by decide +kernel
theorem dX10_chosen_58 : decode cX10_chosen 58 = .ok (.iload 4, 2) := by decide +kernel
theorem dX10_chosen_60 : decode cX10_chosen 60 = .ok (.goto 4, 3) := by decide +kernel
theorem dX10_chosen_63 : decode cX10_chosen 63 = .ok (.iload_n 2, 1) := by decide +kernel
theorem dX10_chosen_64 : decode cX10_chosen 64 = .ok (.istore_n 2, 1) := by decide +kernel
theorem dX10_chosen_65 : decode cX10_chosen 65 = .ok (.goto 57, 3) := by decide +kernel
theorem dX10_chosen_68 : decode cX10_chosen 68 = .ok (.aload_n 0, 1) := by decide +kernel
theorem dX10_chosen_69 : decode cX10_chosen 69 = .ok (.aload_n 1, 1) := by decide +kernel
theorem dX10_chosen_70 : decode cX10_chosen 70 = .ok (.iload 4, 2) := by decide +kernel
theorem dX10_chosen_72 : decode cX10_chosen 72 = .ok (.invokevirtual 323, 3) := by decide +kernel
theorem dX10_chosen_75 : decode cX10_chosen 75 = .ok (.istore 5, 2) := by decide +kernel
theorem dX10_chosen_77 : decode cX10_chosen 77 = .ok (.iload_n 2, 1) := by decide +kernel
theorem dX10_chosen_78 : decode cX10_chosen 78 = .ok (.iconst (-1), 1) := by decide +kernel
theorem dX10_chosen_79 : decode cX10_chosen 79 = .ok (.if_icmp .eq 14, 3) := by decide +kernel
theorem dX10_chosen_82 : decode cX10_chosen 82 = .ok (.iload 5, 2) := by decide +kernel
theorem dX10_chosen_84 : decode cX10_chosen 84 = .ok (.aload_n 0, 1) := by decide +kernel
theorem dX10_chosen_85 : decode cX10_chosen 85 = .ok (.aload_n 1, 1) := by decide +kernel
theorem dX10_chosen_86 : decode cX10_chosen 86 = .ok (.iload_n 2, 1) := by decide +kernel
theorem dX10_chosen_87 : decode cX10_chosen 87 = .ok (.invokevirtual 323, 3) := by decide +kernel
theorem dX10_chosen_90 : decode cX10_chosen 90 = .ok (.if_icmp .le 11, 3) := by decide +kernel
theorem dX10_chosen_93 : decode cX10_chosen 93 = .ok (.iload 4, 2) := by decide +kernel
theorem dX10_chosen_95 : decode cX10_chosen 95 = .ok (.istore_n 2, 1) := by decide +kernel
theorem dX10_chosen_96 : decode cX10_chosen 96 = .ok (.iconst 0, 1) := by decide +kernel
theorem dX10_chosen_97 : decode cX10_chosen 97 = .ok (.istore_n 3, 1) := by decide +kernel
theorem dX10_chosen_98 : decode cX10_chosen 98 = .ok (.goto 24, 3) := by decide +kernel
theorem dX10_chosen_101 : decode cX10_chosen 101 = .ok (.iload_n 3, 1) := by decide +kernel
theorem dX10_chosen_102 : decode cX10_chosen 102 = .ok (.ifCond .ne 14, 3) := by decide +kernel
theorem dX10_chosen_105 : decode cX10_chosen 105 = .ok (.iload 5, 2) := by decide +kernel
theorem dX10_chosen_107 : decode cX10_chosen 107 = .ok (.aload_n 0, 1) := by decide +kernel
theorem dX10_chosen_108 : decode cX10_chosen 108 = .ok (.aload_n 1, 1) := by decide +kernel
theorem dX10_chosen_109 : decode cX10_chosen 109 = .ok (.iload_n 2, 1) := by decide +kernel
theorem dX10_chosen_110 : decode cX10_chosen 110 = .ok (.invokevirtual 323, 3) := by decide +kernel
theorem dX10_chosen_113 : decode cX10_chosen 113 = .ok (.if_icmp .ne 7, 3) := by decide +kernel
theorem dX10_chosen_116 : decode cX10_chosen 116 = .ok (.iconst 1, 1) := by decide +kernel
theorem dX10_chosen_117 : decode cX10_chosen 117 = .ok (.goto 4, 3) := by decide +kernel
theorem dX10_chosen_120 : decode cX10_chosen 120 = .ok (.iconst 0, 1) := by decide +kernel
theorem dX10_chosen_121 : decode cX10_chosen 121 = .ok (.istore_n 3, 1) := by decide +kernel
theorem dX10_chosen_122 : decode cX10_chosen 122 = .ok (.iinc 4 1, 3) := by decide +kernel
theorem dX10_chosen_125 : decode cX10_chosen 125 = .ok (.goto (-118), 3) := by decide +kernel
theorem dX10_chosen_128 : decode cX10_chosen 128 = .ok (.iload_n 2, 1) := by decide +kernel
theorem dX10_chosen_129 : decode cX10_chosen 129 = .ok (.iconst (-1), 1) := by decide +kernel
theorem dX10_chosen_130 : decode cX10_chosen 130 = .ok (.if_icmp .eq 23, 3) := by decide +kernel
theorem dX10_chosen_133 : decode cX10_chosen 133 = .ok (.aload_n 1, 1) := by decide +kernel
theorem dX10_chosen_134 : decode cX10_chosen 134 = .ok (.bipush 61, 2) := by decide +kernel
theorem dX10_chosen_136 : decode cX10_chosen 136 = .ok (.iaload, 1) := by decide +kernel
theorem dX10_chosen_137 : decode cX10_chosen 137 = .ok (.ifCond .le 18, 3) := by decide +kernel
theorem dX10_chosen_140 : decode cX10_chosen 140 = .ok (.iload_n 3, 1) := by decide +kernel
theorem dX10_chosen_141 : decode cX10_chosen 141 = .ok (.ifCond .ne 12, 3) := by decide +kernel
theorem dX10_chosen_144 : decode cX10_chosen 144 = .ok (.aload_n 0, 1) := by decide +kernel
theorem dX10_chosen_145 : decode cX10_chosen 145 = .ok (.aload_n 1, 1) := by decide +kernel
theorem dX10_chosen_146 : decode cX10_chosen 146 = .ok (.iload_n 2, 1) := by decide +kernel
theorem dX10_chosen_147 : decode cX10_chosen 147 = .ok (.invokevirtual 323, 3) := by decide +kernel
theorem dX10_chosen_150 : decode cX10_chosen 150 = .ok (.ifCond .gt 5, 3) := by decide +kernel
theorem dX10_chosen_153 : decode cX10_chosen 153 = .ok (.iconst (-1), 1) := by decide +kernel
theorem dX10_chosen_154 : decode cX10_chosen 154 = .ok (.ireturn, 1) := by decide +kernel
theorem dX10_chosen_155 : decode cX10_chosen 155 = .ok (.iload_n 2, 1) := by decide +kernel
theorem dX10_chosen_156 : decode cX10_chosen 156 = .ok (.ireturn, 1) := by decide +kernel
def fX10_chosen_128  (x0 : Nat) (x1 : Nat) (x2 : Int32) (x3 : Int32) (v : zV) : Option (Int32 × zV) :=
  if x2 = (-1 : Int32) then
    some ((-1 : Int32), v)
  else
    zix (61 : Int32) (zlen x1) <|
    if (v x1 ((61 : Int32)).toNatClampNeg) ≤ (0 : Int32) then
      some (x2, v)
    else
      if x3 = (0 : Int32) then
        zbind (fX10_scoreOf x0 x1 x2 v) fun r_2 v_1 =>
        if (0 : Int32) < r_2 then
          some (x2, v_1)
        else
          some ((-1 : Int32), v_1)
      else
        some ((-1 : Int32), v)
set_option maxRecDepth 4000 in
theorem jX10_chosen_128 (x : zCx) (G : zG) (F : zF x G cX10_chosen 6 RX10 5 167) (hr : x.2.2.2.2.2.2.2.2.1.sig.returnType = (Option.some FieldType.int)) (hk : x.2.2.2.2.2.2.2.2.1.locks = false) (r : Int32) (w : zV)  : ∀ (x0 : Nat) (t0 : zty G x0 1 10) (x1 : Nat) (t1 : zty G x1 2 0) (x2 : Int32) (x3 : Int32) (v : zV), fX10_chosen_128 x0 x1 x2 x3 v = some (r, w) → zJ x G 6 (zQ x G (some (.int r)) w 0 0) 0 0 128 [(0, zr G x0), (1, zr G x1), (2, .int x2), (3, .int x3)] [] v := by
  intro x0 t0 x1 t1 x2 x3 v h
  unfold fX10_chosen_128 at h
  refine z_iload_n F dX10_chosen_128 rfl 2 rfl ?_
  refine z_iconst (y := (-1 : Int32)) F dX10_chosen_129 rfl ?_
  refine z_icmp_eq F 153 dX10_chosen_130 rfl (fun hc => ?_) (fun hc => ?_)
  · replace h := zif_t hc h
    refine z_iconst (y := (-1 : Int32)) F dX10_chosen_153 rfl ?_
    cases h
    exact z_reti F hr hk dX10_chosen_154
  · replace h := zif_f hc h
    refine z_aload_n F dX10_chosen_133 rfl 1 rfl ?_
    refine z_bipush (y := (61 : Int32)) F dX10_chosen_134 rfl ?_
    obtain ⟨hi136, h⟩ := zix_ex h
    refine z_iald F t1 dX10_chosen_136 hi136 ?_
    refine z_if_le F 155 dX10_chosen_137 rfl (fun hc => ?_) (fun hc => ?_)
    · replace h := zif_t hc h
      refine z_iload_n F dX10_chosen_155 rfl 2 rfl ?_
      cases h
      exact z_reti F hr hk dX10_chosen_156
    · replace h := zif_f hc h
      refine z_iload_n F dX10_chosen_140 rfl 3 rfl ?_
      refine z_if_ne F 153 dX10_chosen_141 rfl (fun hc => ?_) (fun hc => ?_)
      · replace h := zif_f hc h
        refine z_iconst (y := (-1 : Int32)) F dX10_chosen_153 rfl ?_
        cases h
        exact z_reti F hr hk dX10_chosen_154
      · replace h := zif_t hc h
        refine z_aload_n F dX10_chosen_144 rfl 0 rfl ?_
        refine z_aload_n F dX10_chosen_145 rfl 1 rfl ?_
        refine z_iload_n F dX10_chosen_146 rfl 2 rfl ?_
        obtain ⟨r_2, v_1, hq147, h⟩ := zbind_ex h
        refine z_callVi F [zr G x1, .int x2] [] (kX10_scoreOf x.2.1 G x0 t0 x1 t1 x2 v r_2 v_1 hq147) mI_X10_scoreOf (c := 10) rfl t0 wM_X10_323 mi_X10_scoreOf sl_X10_scoreOf dX10_chosen_147 rfl ⟨Nat.le_of_ble_eq_true rfl, Nat.le_of_ble_eq_true rfl⟩ rfl (Nat.le_of_ble_eq_true rfl) ⟨Nat.zero_le _, Nat.zero_le _⟩ ?_
        refine z_if_gt F 155 dX10_chosen_150 rfl (fun hc => ?_) (fun hc => ?_)
        · replace h := zif_t hc h
          refine z_iload_n F dX10_chosen_155 rfl 2 rfl ?_
          cases h
          exact z_reti F hr hk dX10_chosen_156
        · replace h := zif_f hc h
          refine z_iconst (y := (-1 : Int32)) F dX10_chosen_153 rfl ?_
          cases h
          exact z_reti F hr hk dX10_chosen_154

def fX10_chosen_7  : Nat → Nat → Nat → Int32 → Int32 → Int32 → zV → Option (Int32 × zV)
  | 0 => fun _ _ _ _ _ _ => none
  | n + 1 => fun x0 x1 x2 x3 x4 v =>
    zix (1 : Int32) (zlen (zrf x0 12)) <|
    if (v (zrf x0 12) ((1 : Int32)).toNatClampNeg) ≤ x4 then
      fX10_chosen_128  x0 x1 x2 x3 v
    else
      zix ((0 : Int32) + x4) (zlen x1) <|
      if (v x1 ((0 : Int32) + x4).toNatClampNeg) = (0 : Int32) then
        zix (61 : Int32) (zlen x1) <|
        if (v x1 ((61 : Int32)).toNatClampNeg) = (0 : Int32) then
          if x2 = (-1 : Int32) then
            (fX10_chosen_7 n) x0 x1 x4 x3 (x4 + (1 : Int32)) v
          else
            zix x4 (zlen (zrf x0 16)) <|
            zix x2 (zlen (zrf x0 16)) <|
            if (v (zrf x0 16) (x4).toNatClampNeg) ≤ (v (zrf x0 16) (x2).toNatClampNeg) then
              (fX10_chosen_7 n) x0 x1 x2 x3 (x4 + (1 : Int32)) v
            else
              (fX10_chosen_7 n) x0 x1 x4 x3 (x4 + (1 : Int32)) v
        else
          zbind (fX10_scoreOf x0 x1 x4 v) fun r_2 v_1 =>
          if x2 = (-1 : Int32) then
            (fX10_chosen_7 n) x0 x1 x4 (0 : Int32) (x4 + (1 : Int32)) v_1
          else
            zbind (fX10_scoreOf x0 x1 x2 v_1) fun r_4 v_3 =>
            if r_2 ≤ r_4 then
              if x3 = (0 : Int32) then
                zbind (fX10_scoreOf x0 x1 x2 v_3) fun r_6 v_5 =>
                if r_2 = r_6 then
                  (fX10_chosen_7 n) x0 x1 x2 (1 : Int32) (x4 + (1 : Int32)) v_5
                else
                  (fX10_chosen_7 n) x0 x1 x2 (0 : Int32) (x4 + (1 : Int32)) v_5
              else
                (fX10_chosen_7 n) x0 x1 x2 (1 : Int32) (x4 + (1 : Int32)) v_3
            else
              (fX10_chosen_7 n) x0 x1 x4 (0 : Int32) (x4 + (1 : Int32)) v_3
      else
        (fX10_chosen_7 n) x0 x1 x2 x3 (x4 + (1 : Int32)) v
set_option maxRecDepth 4000 in
theorem jX10_chosen_7 (x : zCx) (G : zG) (F : zF x G cX10_chosen 6 RX10 5 167) (hr : x.2.2.2.2.2.2.2.2.1.sig.returnType = (Option.some FieldType.int)) (hk : x.2.2.2.2.2.2.2.2.1.locks = false) (r : Int32) (w : zV)  : ∀ (n : Nat) (x0 : Nat) (t0 : zty G x0 1 10) (x1 : Nat) (t1 : zty G x1 2 0) (x2 : Int32) (x3 : Int32) (x4 : Int32) (v : zV), fX10_chosen_7 n x0 x1 x2 x3 x4 v = some (r, w) → zJ x G 6 (zQ x G (some (.int r)) w 0 0) 0 0 7 [(0, zr G x0), (1, zr G x1), (2, .int x2), (3, .int x3), (4, .int x4)] [] v := by
  intro n
  induction n with
  | zero => intro x0 t0 x1 t1 x2 x3 x4 v h; exact absurd h (by intro q; cases q)
  | succ n ih =>
    intro x0 t0 x1 t1 x2 x3 x4 v h
    rw [fX10_chosen_7] at h
    dsimp only at h
    refine z_iload F dX10_chosen_7 4 rfl ?_
    refine z_aload_n F dX10_chosen_9 rfl 0 rfl ?_
    refine zg_10_12 F t0 wF_X10_23 dX10_chosen_10 ?_
    refine z_iconst (y := (1 : Int32)) F dX10_chosen_13 rfl ?_
    obtain ⟨hi14, h⟩ := zix_ex h
    refine z_iald F (zt_f tc_10_12 t0) dX10_chosen_14 hi14 ?_
    refine z_icmp_ge F 128 dX10_chosen_15 rfl (fun hc => ?_) (fun hc => ?_)
    · replace h := zif_t hc h
      refine z_ls [(0, zr G x0), (1, zr G x1), (2, .int x2), (3, .int x3)] [0, 1, 2, 3] rfl ?_
      exact jX10_chosen_128 x G F hr hk r w   x0 t0 x1 t1 x2 x3 v h
    · replace h := zif_f hc h
      refine z_aload_n F dX10_chosen_18 rfl 1 rfl ?_
      refine z_iconst (y := (0 : Int32)) F dX10_chosen_19 rfl ?_
      refine z_iload F dX10_chosen_20 4 rfl ?_
      refine z_iadd F dX10_chosen_22 ?_
      obtain ⟨hi23, h⟩ := zix_ex h
      refine z_iald F t1 dX10_chosen_23 hi23 ?_
      refine z_if_eq F 30 dX10_chosen_24 rfl (fun hc => ?_) (fun hc => ?_)
      · replace h := zif_t hc h
        refine z_aload_n F dX10_chosen_30 rfl 1 rfl ?_
        refine z_bipush (y := (61 : Int32)) F dX10_chosen_31 rfl ?_
        obtain ⟨hi33, h⟩ := zix_ex h
        refine z_iald F t1 dX10_chosen_33 hi33 ?_
        refine z_if_ne F 68 dX10_chosen_34 rfl (fun hc => ?_) (fun hc => ?_)
        · replace h := zif_f hc h
          refine z_aload_n F dX10_chosen_68 rfl 0 rfl ?_
          refine z_aload_n F dX10_chosen_69 rfl 1 rfl ?_
          refine z_iload F dX10_chosen_70 4 rfl ?_
          obtain ⟨r_2, v_1, hq72, h⟩ := zbind_ex h
          refine z_callVi F [zr G x1, .int x4] [] (kX10_scoreOf x.2.1 G x0 t0 x1 t1 x4 v r_2 v_1 hq72) mI_X10_scoreOf (c := 10) rfl t0 wM_X10_323 mi_X10_scoreOf sl_X10_scoreOf dX10_chosen_72 rfl ⟨Nat.le_of_ble_eq_true rfl, Nat.le_of_ble_eq_true rfl⟩ rfl (Nat.le_of_ble_eq_true rfl) ⟨Nat.zero_le _, Nat.zero_le _⟩ ?_
          refine z_istore (n := 0) F [(5, .int r_2), (0, zr G x0), (1, zr G x1), (2, .int x2), (3, .int x3), (4, .int x4)] dX10_chosen_75 (Nat.le_of_ble_eq_true rfl) rfl ?_
          refine z_iload_n F dX10_chosen_77 rfl 3 rfl ?_
          refine z_iconst (y := (-1 : Int32)) F dX10_chosen_78 rfl ?_
          refine z_icmp_eq F 93 dX10_chosen_79 rfl (fun hc => ?_) (fun hc => ?_)
          · replace h := zif_t hc h
            refine z_iload F dX10_chosen_93 5 rfl ?_
            refine z_istore_n F [(2, .int x4), (5, .int r_2), (0, zr G x0), (1, zr G x1), (3, .int x3), (4, .int x4)] dX10_chosen_95 rfl (Nat.le_of_ble_eq_true rfl) rfl ?_
            refine z_iconst (y := (0 : Int32)) F dX10_chosen_96 rfl ?_
            refine z_istore_n F [(3, .int (0 : Int32)), (2, .int x4), (5, .int r_2), (0, zr G x0), (1, zr G x1), (4, .int x4)] dX10_chosen_97 rfl (Nat.le_of_ble_eq_true rfl) rfl ?_
            refine z_goto F 122 dX10_chosen_98 rfl ?_
            refine z_iinc F [(4, .int (x4 + (1 : Int32))), (3, .int (0 : Int32)), (2, .int x4), (5, .int r_2), (0, zr G x0), (1, zr G x1)] dX10_chosen_122 5 rfl rfl (Nat.le_of_ble_eq_true rfl) rfl ?_
            refine z_goto F 7 dX10_chosen_125 rfl ?_
            refine z_ls [(0, zr G x0), (1, zr G x1), (2, .int x4), (3, .int (0 : Int32)), (4, .int (x4 + (1 : Int32)))] [4, 5, 2, 1, 0] rfl ?_
            exact ih x0 t0 x1 t1 x4 (0 : Int32) (x4 + (1 : Int32)) v_1 h
          · replace h := zif_f hc h
            refine z_iload F dX10_chosen_82 0 rfl ?_
            refine z_aload_n F dX10_chosen_84 rfl 1 rfl ?_
            refine z_aload_n F dX10_chosen_85 rfl 2 rfl ?_
            refine z_iload_n F dX10_chosen_86 rfl 3 rfl ?_
            obtain ⟨r_4, v_3, hq87, h⟩ := zbind_ex h
            refine z_callVi F [zr G x1, .int x2] [.int r_2] (kX10_scoreOf x.2.1 G x0 t0 x1 t1 x2 v_1 r_4 v_3 hq87) mI_X10_scoreOf (c := 10) rfl t0 wM_X10_323 mi_X10_scoreOf sl_X10_scoreOf dX10_chosen_87 rfl ⟨Nat.le_of_ble_eq_true rfl, Nat.le_of_ble_eq_true rfl⟩ rfl (Nat.le_of_ble_eq_true rfl) ⟨Nat.zero_le _, Nat.zero_le _⟩ ?_
            refine z_icmp_le F 101 dX10_chosen_90 rfl (fun hc => ?_) (fun hc => ?_)
            · replace h := zif_t hc h
              refine z_iload_n F dX10_chosen_101 rfl 4 rfl ?_
              refine z_if_ne F 116 dX10_chosen_102 rfl (fun hc => ?_) (fun hc => ?_)
              · replace h := zif_f hc h
                refine z_iconst (y := (1 : Int32)) F dX10_chosen_116 rfl ?_
                refine z_goto F 121 dX10_chosen_117 rfl ?_
                refine z_istore_n F [(3, .int (1 : Int32)), (5, .int r_2), (0, zr G x0), (1, zr G x1), (2, .int x2), (4, .int x4)] dX10_chosen_121 rfl (Nat.le_of_ble_eq_true rfl) rfl ?_
                refine z_iinc F [(4, .int (x4 + (1 : Int32))), (3, .int (1 : Int32)), (5, .int r_2), (0, zr G x0), (1, zr G x1), (2, .int x2)] dX10_chosen_122 5 rfl rfl (Nat.le_of_ble_eq_true rfl) rfl ?_
                refine z_goto F 7 dX10_chosen_125 rfl ?_
                refine z_ls [(0, zr G x0), (1, zr G x1), (2, .int x2), (3, .int (1 : Int32)), (4, .int (x4 + (1 : Int32)))] [3, 4, 5, 1, 0] rfl ?_
                exact ih x0 t0 x1 t1 x2 (1 : Int32) (x4 + (1 : Int32)) v_3 h
              · replace h := zif_t hc h
                refine z_iload F dX10_chosen_105 0 rfl ?_
                refine z_aload_n F dX10_chosen_107 rfl 1 rfl ?_
                refine z_aload_n F dX10_chosen_108 rfl 2 rfl ?_
                refine z_iload_n F dX10_chosen_109 rfl 3 rfl ?_
                obtain ⟨r_6, v_5, hq110, h⟩ := zbind_ex h
                refine z_callVi F [zr G x1, .int x2] [.int r_2] (kX10_scoreOf x.2.1 G x0 t0 x1 t1 x2 v_3 r_6 v_5 hq110) mI_X10_scoreOf (c := 10) rfl t0 wM_X10_323 mi_X10_scoreOf sl_X10_scoreOf dX10_chosen_110 rfl ⟨Nat.le_of_ble_eq_true rfl, Nat.le_of_ble_eq_true rfl⟩ rfl (Nat.le_of_ble_eq_true rfl) ⟨Nat.zero_le _, Nat.zero_le _⟩ ?_
                refine z_icmp_ne F 120 dX10_chosen_113 rfl (fun hc => ?_) (fun hc => ?_)
                · replace h := zif_f hc h
                  refine z_iconst (y := (0 : Int32)) F dX10_chosen_120 rfl ?_
                  refine z_istore_n F [(3, .int (0 : Int32)), (5, .int r_2), (0, zr G x0), (1, zr G x1), (2, .int x2), (4, .int x4)] dX10_chosen_121 rfl (Nat.le_of_ble_eq_true rfl) rfl ?_
                  refine z_iinc F [(4, .int (x4 + (1 : Int32))), (3, .int (0 : Int32)), (5, .int r_2), (0, zr G x0), (1, zr G x1), (2, .int x2)] dX10_chosen_122 5 rfl rfl (Nat.le_of_ble_eq_true rfl) rfl ?_
                  refine z_goto F 7 dX10_chosen_125 rfl ?_
                  refine z_ls [(0, zr G x0), (1, zr G x1), (2, .int x2), (3, .int (0 : Int32)), (4, .int (x4 + (1 : Int32)))] [3, 4, 5, 1, 0] rfl ?_
                  exact ih x0 t0 x1 t1 x2 (0 : Int32) (x4 + (1 : Int32)) v_5 h
                · replace h := zif_t hc h
                  refine z_iconst (y := (1 : Int32)) F dX10_chosen_116 rfl ?_
                  refine z_goto F 121 dX10_chosen_117 rfl ?_
                  refine z_istore_n F [(3, .int (1 : Int32)), (5, .int r_2), (0, zr G x0), (1, zr G x1), (2, .int x2), (4, .int x4)] dX10_chosen_121 rfl (Nat.le_of_ble_eq_true rfl) rfl ?_
                  refine z_iinc F [(4, .int (x4 + (1 : Int32))), (3, .int (1 : Int32)), (5, .int r_2), (0, zr G x0), (1, zr G x1), (2, .int x2)] dX10_chosen_122 5 rfl rfl (Nat.le_of_ble_eq_true rfl) rfl ?_
                  refine z_goto F 7 dX10_chosen_125 rfl ?_
                  refine z_ls [(0, zr G x0), (1, zr G x1), (2, .int x2), (3, .int (1 : Int32)), (4, .int (x4 + (1 : Int32)))] [3, 4, 5, 1, 0] rfl ?_
                  exact ih x0 t0 x1 t1 x2 (1 : Int32) (x4 + (1 : Int32)) v_5 h
            · replace h := zif_f hc h
              refine z_iload F dX10_chosen_93 5 rfl ?_
              refine z_istore_n F [(2, .int x4), (5, .int r_2), (0, zr G x0), (1, zr G x1), (3, .int x3), (4, .int x4)] dX10_chosen_95 rfl (Nat.le_of_ble_eq_true rfl) rfl ?_
              refine z_iconst (y := (0 : Int32)) F dX10_chosen_96 rfl ?_
              refine z_istore_n F [(3, .int (0 : Int32)), (2, .int x4), (5, .int r_2), (0, zr G x0), (1, zr G x1), (4, .int x4)] dX10_chosen_97 rfl (Nat.le_of_ble_eq_true rfl) rfl ?_
              refine z_goto F 122 dX10_chosen_98 rfl ?_
              refine z_iinc F [(4, .int (x4 + (1 : Int32))), (3, .int (0 : Int32)), (2, .int x4), (5, .int r_2), (0, zr G x0), (1, zr G x1)] dX10_chosen_122 5 rfl rfl (Nat.le_of_ble_eq_true rfl) rfl ?_
              refine z_goto F 7 dX10_chosen_125 rfl ?_
              refine z_ls [(0, zr G x0), (1, zr G x1), (2, .int x4), (3, .int (0 : Int32)), (4, .int (x4 + (1 : Int32)))] [4, 5, 2, 1, 0] rfl ?_
              exact ih x0 t0 x1 t1 x4 (0 : Int32) (x4 + (1 : Int32)) v_3 h
        · replace h := zif_t hc h
          refine z_iload_n F dX10_chosen_37 rfl 2 rfl ?_
          refine z_iconst (y := (-1 : Int32)) F dX10_chosen_38 rfl ?_
          refine z_icmp_eq F 58 dX10_chosen_39 rfl (fun hc => ?_) (fun hc => ?_)
          · replace h := zif_t hc h
            refine z_iload F dX10_chosen_58 4 rfl ?_
            refine z_goto F 64 dX10_chosen_60 rfl ?_
            refine z_istore_n F [(2, .int x4), (0, zr G x0), (1, zr G x1), (3, .int x3), (4, .int x4)] dX10_chosen_64 rfl (Nat.le_of_ble_eq_true rfl) rfl ?_
            refine z_goto F 122 dX10_chosen_65 rfl ?_
            refine z_iinc F [(4, .int (x4 + (1 : Int32))), (2, .int x4), (0, zr G x0), (1, zr G x1), (3, .int x3)] dX10_chosen_122 4 rfl rfl (Nat.le_of_ble_eq_true rfl) rfl ?_
            refine z_goto F 7 dX10_chosen_125 rfl ?_
            refine z_ls [(0, zr G x0), (1, zr G x1), (2, .int x4), (3, .int x3), (4, .int (x4 + (1 : Int32)))] [2, 3, 1, 4, 0] rfl ?_
            exact ih x0 t0 x1 t1 x4 x3 (x4 + (1 : Int32)) v h
          · replace h := zif_f hc h
            refine z_aload_n F dX10_chosen_42 rfl 0 rfl ?_
            refine zg_10_16 F t0 wF_X10_35 dX10_chosen_43 ?_
            refine z_iload F dX10_chosen_46 4 rfl ?_
            obtain ⟨hi48, h⟩ := zix_ex h
            refine z_iald F (zt_f tc_10_16 t0) dX10_chosen_48 hi48 ?_
            refine z_aload_n F dX10_chosen_49 rfl 0 rfl ?_
            refine zg_10_16 F t0 wF_X10_35 dX10_chosen_50 ?_
            refine z_iload_n F dX10_chosen_53 rfl 2 rfl ?_
            obtain ⟨hi54, h⟩ := zix_ex h
            refine z_iald F (zt_f tc_10_16 t0) dX10_chosen_54 hi54 ?_
            refine z_icmp_le F 63 dX10_chosen_55 rfl (fun hc => ?_) (fun hc => ?_)
            · replace h := zif_t hc h
              refine z_iload_n F dX10_chosen_63 rfl 2 rfl ?_
              refine z_istore_n F [(2, .int x2), (0, zr G x0), (1, zr G x1), (3, .int x3), (4, .int x4)] dX10_chosen_64 rfl (Nat.le_of_ble_eq_true rfl) rfl ?_
              refine z_goto F 122 dX10_chosen_65 rfl ?_
              refine z_iinc F [(4, .int (x4 + (1 : Int32))), (2, .int x2), (0, zr G x0), (1, zr G x1), (3, .int x3)] dX10_chosen_122 4 rfl rfl (Nat.le_of_ble_eq_true rfl) rfl ?_
              refine z_goto F 7 dX10_chosen_125 rfl ?_
              refine z_ls [(0, zr G x0), (1, zr G x1), (2, .int x2), (3, .int x3), (4, .int (x4 + (1 : Int32)))] [2, 3, 1, 4, 0] rfl ?_
              exact ih x0 t0 x1 t1 x2 x3 (x4 + (1 : Int32)) v h
            · replace h := zif_f hc h
              refine z_iload F dX10_chosen_58 4 rfl ?_
              refine z_goto F 64 dX10_chosen_60 rfl ?_
              refine z_istore_n F [(2, .int x4), (0, zr G x0), (1, zr G x1), (3, .int x3), (4, .int x4)] dX10_chosen_64 rfl (Nat.le_of_ble_eq_true rfl) rfl ?_
              refine z_goto F 122 dX10_chosen_65 rfl ?_
              refine z_iinc F [(4, .int (x4 + (1 : Int32))), (2, .int x4), (0, zr G x0), (1, zr G x1), (3, .int x3)] dX10_chosen_122 4 rfl rfl (Nat.le_of_ble_eq_true rfl) rfl ?_
              refine z_goto F 7 dX10_chosen_125 rfl ?_
              refine z_ls [(0, zr G x0), (1, zr G x1), (2, .int x4), (3, .int x3), (4, .int (x4 + (1 : Int32)))] [2, 3, 1, 4, 0] rfl ?_
              exact ih x0 t0 x1 t1 x4 x3 (x4 + (1 : Int32)) v h
      · replace h := zif_f hc h
        refine z_goto F 122 dX10_chosen_27 rfl ?_
        refine z_iinc F [(4, .int (x4 + (1 : Int32))), (0, zr G x0), (1, zr G x1), (2, .int x2), (3, .int x3)] dX10_chosen_122 4 rfl rfl (Nat.le_of_ble_eq_true rfl) rfl ?_
        refine z_goto F 7 dX10_chosen_125 rfl ?_
        refine z_ls [(0, zr G x0), (1, zr G x1), (2, .int x2), (3, .int x3), (4, .int (x4 + (1 : Int32)))] [1, 2, 3, 4, 0] rfl ?_
        exact ih x0 t0 x1 t1 x2 x3 (x4 + (1 : Int32)) v h

def fX10_chosen (x0 : Nat) (x1 : Nat) (v : zV) : Option (Int32 × zV) :=
  fX10_chosen_7  zFU x0 x1 (-1 : Int32) (0 : Int32) (0 : Int32) v
set_option maxRecDepth 4000 in
theorem kX10_chosen (l : Launch) (G : zG) (x0 : Nat) (t0 : zty G x0 1 10) (x1 : Nat) (t1 : zty G x1 2 0) (v : zV) (r : Int32) (w : zV) (h : fX10_chosen x0 x1 v = some (r, w)) : zMet l yX10_chosen cX10_chosen 6 (Option.some FieldType.int) 5 167 0 0 [zr G x0, zr G x1] G v (some (.int r)) w := by
  refine zM_of (own := RX10) (by decide) rfl (Nat.le_of_ble_eq_true rfl) (fun x hl F hr hk hcs => ?_)
  subst hl
  refine z_ls [(0, zr G x0), (1, zr G x1)] [0, 1] rfl ?_
  unfold fX10_chosen at h
  refine z_iconst (y := (-1 : Int32)) F dX10_chosen_0 rfl ?_
  refine z_istore_n F [(2, .int (-1 : Int32)), (0, zr G x0), (1, zr G x1)] dX10_chosen_1 rfl (Nat.le_of_ble_eq_true rfl) rfl ?_
  refine z_iconst (y := (0 : Int32)) F dX10_chosen_2 rfl ?_
  refine z_istore_n F [(3, .int (0 : Int32)), (2, .int (-1 : Int32)), (0, zr G x0), (1, zr G x1)] dX10_chosen_3 rfl (Nat.le_of_ble_eq_true rfl) rfl ?_
  refine z_iconst (y := (0 : Int32)) F dX10_chosen_4 rfl ?_
  refine z_istore (n := 0) F [(4, .int (0 : Int32)), (3, .int (0 : Int32)), (2, .int (-1 : Int32)), (0, zr G x0), (1, zr G x1)] dX10_chosen_5 (Nat.le_of_ble_eq_true rfl) rfl ?_
  refine z_ls [(0, zr G x0), (1, zr G x1), (2, .int (-1 : Int32)), (3, .int (0 : Int32)), (4, .int (0 : Int32))] [3, 4, 2, 1, 0] rfl ?_
  exact jX10_chosen_7 x G F hr hk r w   zFU x0 t0 x1 t1 (-1 : Int32) (0 : Int32) (0 : Int32) v h

