theorem dX10_risesFrom_0 : decode cX10_risesFrom 0 = .ok (.iload_n 1, 1) := by decide +kernel
theorem dX10_risesFrom_1 : decode cX10_risesFrom 1 = .ok (.istore_n 2, 1) := by decide +kernel
theorem dX10_risesFrom_2 : decode cX10_risesFrom 2 = .ok (.iload_n 2, 1) := by decide +kernel
theorem dX10_risesFrom_3 : decode cX10_risesFrom 3 = .ok (.iconst 1, 1) := by decide +kernel
theorem dX10_risesFrom_4 : decode cX10_risesFrom 4 = .ok (.iadd, 1) := by decide +kernel
theorem dX10_risesFrom_5 : decode cX10_risesFrom 5 = .ok (.aload_n 0, 1) := by decide +kernel
theorem dX10_risesFrom_6 : decode cX10_risesFrom 6 = .ok (.bipush 61, 2) := by decide +kernel
theorem dX10_risesFrom_8 : decode cX10_risesFrom 8 = .ok (.iaload, 1) := by decide +kernel
theorem dX10_risesFrom_9 : decode cX10_risesFrom 9 = .ok (.if_icmp .ge 23, 3) := by decide +kernel
theorem dX10_risesFrom_12 : decode cX10_risesFrom 12 = .ok (.aload_n 0, 1) := by decide +kernel
theorem dX10_risesFrom_13 : decode cX10_risesFrom 13 = .ok (.bipush 48, 2) := by decide +kernel
theorem dX10_risesFrom_15 : decode cX10_risesFrom 15 = .ok (.iload_n 2, 1) := by decide +kernel
theorem dX10_risesFrom_16 : decode cX10_risesFrom 16 = .ok (.iadd, 1) := by decide +kernel
theorem dX10_risesFrom_17 : decode cX10_risesFrom 17 = .ok (.aload_n 0, 1) := by decide +kernel
theorem dX10_risesFrom_18 : decode cX10_risesFrom 18 = .ok (.bipush 48, 2) := by decide +kernel
theorem dX10_risesFrom_20 : decode cX10_risesFrom 20 = .ok (.iload_n 2, 1) := by decide +kernel
theorem dX10_risesFrom_21 : decode cX10_risesFrom 21 = .ok (.iadd, 1) := by decide +kernel
theorem dX10_risesFrom_22 : decode cX10_risesFrom 22 = .ok (.iconst 1, 1) := by decide +kernel
theorem dX10_risesFrom_23 : decode cX10_risesFrom 23 = .ok (.iadd, 1) := by decide +kernel
theorem dX10_risesFrom_24 : decode cX10_risesFrom 24 = .ok (.iaload, 1) := by decide +kernel
theorem dX10_risesFrom_25 : decode cX10_risesFrom 25 = .ok (.iastore, 1) := by decide +kernel
theorem dX10_risesFrom_26 : decode cX10_risesFrom 26 = .ok (.iinc 2 1, 3) := by decide +kernel
theorem dX10_risesFrom_29 : decode cX10_risesFrom 29 = .ok (.goto (-27), 3) := by decide +kernel
theorem dX10_risesFrom_32 : decode cX10_risesFrom 32 = .ok (.aload_n 0, 1) := by decide +kernel
theorem dX10_risesFrom_33 : decode cX10_risesFrom 33 = .ok (.bipush 61, 2) := by decide +kernel
theorem dX10_risesFrom_35 : decode cX10_risesFrom 35 = .ok (.dup2, 1) := by decide +kernel
theorem dX10_risesFrom_36 : decode cX10_risesFrom 36 = .ok (.iaload, 1) := by decide +kernel
theorem dX10_risesFrom_37 : decode cX10_risesFrom 37 = .ok (.iconst 1, 1) := by decide +kernel
theorem dX10_risesFrom_38 : decode cX10_risesFrom 38 = .ok (.isub, 1) := by decide +kernel
theorem dX10_risesFrom_39 : decode cX10_risesFrom 39 = .ok (.iastore, 1) := by decide +kernel
theorem dX10_risesFrom_40 : decode cX10_risesFrom 40 = .ok (.return_, 1) := by decide +kernel
def fX10_risesFrom_2  : Nat → Nat → Int32 → zV → Option zV
  | 0 => fun _ _ _ => none
  | n + 1 => fun x0 x2 v =>
    zix (61 : Int32) (zlen x0) <|
    if (v x0 ((61 : Int32)).toNatClampNeg) ≤ (x2 + (1 : Int32)) then
      zix (61 : Int32) (zlen x0) <|
      zix (61 : Int32) (zlen x0) <|
      zlet (zup v x0 ((61 : Int32)).toNatClampNeg ((v x0 ((61 : Int32)).toNatClampNeg) - (1 : Int32))) fun v_1 =>
      some v_1
    else
      zix (((48 : Int32) + x2) + (1 : Int32)) (zlen x0) <|
      zix ((48 : Int32) + x2) (zlen x0) <|
      zlet (zup v x0 ((48 : Int32) + x2).toNatClampNeg (v x0 (((48 : Int32) + x2) + (1 : Int32)).toNatClampNeg)) fun v_2 =>
      (fX10_risesFrom_2 n) x0 (x2 + (1 : Int32)) v_2
set_option maxRecDepth 4000 in
theorem jX10_risesFrom_2 (x : zCx) (G : zG) (F : zF x G cX10_risesFrom 3 RX10 1 80) (hr : x.2.2.2.2.2.2.2.2.1.sig.returnType = (Option.none : Option FieldType)) (hk : x.2.2.2.2.2.2.2.2.1.locks = false) (w : zV)  : ∀ (n : Nat) (x0 : Nat) (t0 : zty G x0 2 0) (x2 : Int32) (v : zV), fX10_risesFrom_2 n x0 x2 v = some w → zJ x G 3 (zQ x G none w 0 0) 0 0 2 [(0, zr G x0), (2, .int x2)] [] v := by
  intro n
  induction n with
  | zero => intro x0 t0 x2 v h; exact absurd h (by intro q; cases q)
  | succ n ih =>
    intro x0 t0 x2 v h
    rw [fX10_risesFrom_2] at h
    dsimp only at h
    refine z_iload_n F dX10_risesFrom_2 rfl 1 rfl ?_
    refine z_iconst (y := (1 : Int32)) F dX10_risesFrom_3 rfl ?_
    refine z_iadd F dX10_risesFrom_4 ?_
    refine z_aload_n F dX10_risesFrom_5 rfl 0 rfl ?_
    refine z_bipush (y := (61 : Int32)) F dX10_risesFrom_6 rfl ?_
    obtain ⟨hi8, h⟩ := zix_ex h
    refine z_iald F t0 dX10_risesFrom_8 hi8 ?_
    refine z_icmp_ge F 32 dX10_risesFrom_9 rfl (fun hc => ?_) (fun hc => ?_)
    · replace h := zif_t hc h
      refine z_aload_n F dX10_risesFrom_32 rfl 0 rfl ?_
      refine z_bipush (y := (61 : Int32)) F dX10_risesFrom_33 rfl ?_
      refine z_dup2 F dX10_risesFrom_35 rfl rfl ?_
      obtain ⟨hi36, h⟩ := zix_ex h
      refine z_iald F t0 dX10_risesFrom_36 hi36 ?_
      refine z_iconst (y := (1 : Int32)) F dX10_risesFrom_37 rfl ?_
      refine z_isub F dX10_risesFrom_38 ?_
      obtain ⟨hi39, h⟩ := zix_ex h
      refine z_iast F t0 dX10_risesFrom_39 hi39 ?_
      obtain ⟨v_1, ev_1, h⟩ := zlet_ex h
      refine z_heap ev_1 ?_
      cases h
      exact z_retv F hr hk dX10_risesFrom_40
    · replace h := zif_f hc h
      refine z_aload_n F dX10_risesFrom_12 rfl 0 rfl ?_
      refine z_bipush (y := (48 : Int32)) F dX10_risesFrom_13 rfl ?_
      refine z_iload_n F dX10_risesFrom_15 rfl 1 rfl ?_
      refine z_iadd F dX10_risesFrom_16 ?_
      refine z_aload_n F dX10_risesFrom_17 rfl 0 rfl ?_
      refine z_bipush (y := (48 : Int32)) F dX10_risesFrom_18 rfl ?_
      refine z_iload_n F dX10_risesFrom_20 rfl 1 rfl ?_
      refine z_iadd F dX10_risesFrom_21 ?_
      refine z_iconst (y := (1 : Int32)) F dX10_risesFrom_22 rfl ?_
      refine z_iadd F dX10_risesFrom_23 ?_
      obtain ⟨hi24, h⟩ := zix_ex h
      refine z_iald F t0 dX10_risesFrom_24 hi24 ?_
      obtain ⟨hi25, h⟩ := zix_ex h
      refine z_iast F t0 dX10_risesFrom_25 hi25 ?_
      obtain ⟨v_2, ev_2, h⟩ := zlet_ex h
      refine z_heap ev_2 ?_
      refine z_iinc F [(2, .int (x2 + (1 : Int32))), (0, zr G x0)] dX10_risesFrom_26 1 rfl rfl (Nat.le_of_ble_eq_true rfl) rfl ?_
      refine z_goto F 2 dX10_risesFrom_29 rfl ?_
      refine z_ls [(0, zr G x0), (2, .int (x2 + (1 : Int32)))] [1, 0] rfl ?_
      exact ih x0 t0 (x2 + (1 : Int32)) v_2 h

def fX10_risesFrom (x0 : Nat) (x1 : Int32) (v : zV) : Option zV :=
  fX10_risesFrom_2  zFU x0 x1 v
set_option maxRecDepth 4000 in
theorem kX10_risesFrom (l : Launch) (G : zG) (x0 : Nat) (t0 : zty G x0 2 0) (x1 : Int32) (v : zV) (w : zV) (h : fX10_risesFrom x0 x1 v = some w) : zMet l yX10_risesFrom cX10_risesFrom 3 (Option.none : Option FieldType) 1 80 0 0 [zr G x0, .int x1] G v none w := by
  refine zM_of (own := RX10) (by decide) rfl (Nat.le_of_ble_eq_true rfl) (fun x hl F hr hk hcs => ?_)
  subst hl
  refine z_ls [(0, zr G x0), (1, .int x1)] [0, 1] rfl ?_
  unfold fX10_risesFrom at h
  refine z_iload_n F dX10_risesFrom_0 rfl 1 rfl ?_
  refine z_istore_n F [(2, .int x1), (0, zr G x0), (1, .int x1)] dX10_risesFrom_1 rfl (Nat.le_of_ble_eq_true rfl) rfl ?_
  refine z_ls [(0, zr G x0), (2, .int x1)] [1, 0] rfl ?_
  exact jX10_risesFrom_2 x G F hr hk w   zFU x0 t0 x1 v h

theorem dX10_leaves_0 : decode cX10_leaves 0 = .ok (.aload_n 0, 1) := by decide +kernel
theorem dX10_leaves_1 : decode cX10_leaves 1 = .ok (.iconst 0, 1) := by decide +kernel
theorem dX10_leaves_2 : decode cX10_leaves 2 = .ok (.aload_n 0, 1) := by decide +kernel
theorem dX10_leaves_3 : decode cX10_leaves 3 = .ok (.bipush 48, 2) := by decide +kernel
theorem dX10_leaves_5 : decode cX10_leaves 5 = .ok (.iload_n 1, 1) := by decide +kernel
theorem dX10_leaves_6 : decode cX10_leaves 6 = .ok (.iadd, 1) := by decide +kernel
theorem dX10_leaves_7 : decode cX10_leaves 7 = .ok (.iaload, 1) := by decide +kernel
theorem dX10_leaves_8 : decode cX10_leaves 8 = .ok (.iadd, 1) := by decide +kernel
theorem dX10_leaves_9 : decode cX10_leaves 9 = .ok (.iconst 2, 1) := by decide +kernel
theorem dX10_leaves_10 : decode cX10_leaves 10 = .ok (.iastore, 1) := by decide +kernel
theorem dX10_leaves_11 : decode cX10_leaves 11 = .ok (.aload_n 0, 1) := by decide +kernel
theorem dX10_leaves_12 : decode cX10_leaves 12 = .ok (.bipush 102, 2) := by decide +kernel
theorem dX10_leaves_14 : decode cX10_leaves 14 = .ok (.dup2, 1) := by decide +kernel
theorem dX10_leaves_15 : decode cX10_leaves 15 = .ok (.iaload, 1) := by decide +kernel
theorem dX10_leaves_16 : decode cX10_leaves 16 = .ok (.iconst 1, 1) := by decide +kernel
theorem dX10_leaves_17 : decode cX10_leaves 17 = .ok (.iadd, 1) := by decide +kernel
theorem dX10_leaves_18 : decode cX10_leaves 18 = .ok (.iastore, 1) := by decide +kernel
theorem dX10_leaves_19 : decode cX10_leaves 19 = .ok (.aload_n 0, 1) := by decide +kernel
theorem dX10_leaves_20 : decode cX10_leaves 20 = .ok (.iload_n 1, 1) := by decide +kernel
theorem dX10_leaves_21 : decode cX10_leaves 21 = .ok (.invokestatic 326, 3) := by decide +kernel
theorem dX10_leaves_24 : decode cX10_leaves 24 = .ok (.return_, 1) := by decide +kernel
def fX10_leaves (x0 : Nat) (x1 : Int32) (v : zV) : Option zV :=
  zix ((48 : Int32) + x1) (zlen x0) <|
  zix ((0 : Int32) + (v x0 ((48 : Int32) + x1).toNatClampNeg)) (zlen x0) <|
  zlet (zup v x0 ((0 : Int32) + (v x0 ((48 : Int32) + x1).toNatClampNeg)).toNatClampNeg (2 : Int32)) fun v_1 =>
  zix (102 : Int32) (zlen x0) <|
  zix (102 : Int32) (zlen x0) <|
  zlet (zup v_1 x0 ((102 : Int32)).toNatClampNeg ((v_1 x0 ((102 : Int32)).toNatClampNeg) + (1 : Int32))) fun v_2 =>
  zbindv (fX10_risesFrom x0 x1 v_2) fun v_3 =>
  some v_3
set_option maxRecDepth 4000 in
theorem kX10_leaves (l : Launch) (G : zG) (x0 : Nat) (t0 : zty G x0 2 0) (x1 : Int32) (v : zV) (w : zV) (h : fX10_leaves x0 x1 v = some w) : zMet l yX10_leaves cX10_leaves 2 (Option.none : Option FieldType) 2 102 0 0 [zr G x0, .int x1] G v none w := by
  refine zM_of (own := RX10) (by decide) rfl (Nat.le_of_ble_eq_true rfl) (fun x hl F hr hk hcs => ?_)
  subst hl
  refine z_ls [(0, zr G x0), (1, .int x1)] [0, 1] rfl ?_
  unfold fX10_leaves at h
  refine z_aload_n F dX10_leaves_0 rfl 0 rfl ?_
  refine z_iconst (y := (0 : Int32)) F dX10_leaves_1 rfl ?_
  refine z_aload_n F dX10_leaves_2 rfl 0 rfl ?_
  refine z_bipush (y := (48 : Int32)) F dX10_leaves_3 rfl ?_
  refine z_iload_n F dX10_leaves_5 rfl 1 rfl ?_
  refine z_iadd F dX10_leaves_6 ?_
  obtain ⟨hi7, h⟩ := zix_ex h
  refine z_iald F t0 dX10_leaves_7 hi7 ?_
  refine z_iadd F dX10_leaves_8 ?_
  refine z_iconst (y := (2 : Int32)) F dX10_leaves_9 rfl ?_
  obtain ⟨hi10, h⟩ := zix_ex h
  refine z_iast F t0 dX10_leaves_10 hi10 ?_
  obtain ⟨v_1, ev_1, h⟩ := zlet_ex h
  refine z_heap ev_1 ?_
  refine z_aload_n F dX10_leaves_11 rfl 0 rfl ?_
  refine z_bipush (y := (102 : Int32)) F dX10_leaves_12 rfl ?_
  refine z_dup2 F dX10_leaves_14 rfl rfl ?_
  obtain ⟨hi15, h⟩ := zix_ex h
  refine z_iald F t0 dX10_leaves_15 hi15 ?_
  refine z_iconst (y := (1 : Int32)) F dX10_leaves_16 rfl ?_
  refine z_iadd F dX10_leaves_17 ?_
  obtain ⟨hi18, h⟩ := zix_ex h
  refine z_iast F t0 dX10_leaves_18 hi18 ?_
  obtain ⟨v_2, ev_2, h⟩ := zlet_ex h
  refine z_heap ev_2 ?_
  refine z_aload_n F dX10_leaves_19 rfl 0 rfl ?_
  refine z_iload_n F dX10_leaves_20 rfl 1 rfl ?_
  obtain ⟨v_3, hq21, h⟩ := zbindv_ex h
  refine z_callSv F [zr G x0, .int x1] [] (kX10_risesFrom x.2.1 G x0 t0 x1 v_2 v_3 hq21) mI_X10_risesFrom wM_X10_326 ms_X10_risesFrom dX10_leaves_21 rfl ⟨Nat.le_of_ble_eq_true rfl, Nat.le_of_ble_eq_true rfl⟩ rfl (Nat.le_of_ble_eq_true rfl) ⟨Nat.zero_le _, Nat.zero_le _⟩ ?_
  cases h
  exact z_retv F hr hk dX10_leaves_24

theorem dX10_dies_0 : decode cX10_dies 0 = .ok (.aload_n 1, 1) := by decide +kernel
theorem dX10_dies_1 : decode cX10_dies 1 = .ok (.iconst 0, 1) := by decide +kernel
theorem dX10_dies_2 : decode cX10_dies 2 = .ok (.iload_n 2, 1) := by decide +kernel
theorem dX10_dies_3 : decode cX10_dies 3 = .ok (.iadd, 1) := by decide +kernel
theorem dX10_dies_4 : decode cX10_dies 4 = .ok (.iaload, 1) := by decide +kernel
theorem dX10_dies_5 : decode cX10_dies 5 = .ok (.iconst 3, 1) := by decide +kernel
theorem dX10_dies_6 : decode cX10_dies 6 = .ok (.if_icmp .ne 4, 3) := by decide +kernel
theorem dX10_dies_9 : decode cX10_dies 9 = .ok (.return_, 1) := by decide +kernel
theorem dX10_dies_10 : decode cX10_dies 10 = .ok (.aload_n 1, 1) := by decide +kernel
theorem dX10_dies_11 : decode cX10_dies 11 = .ok (.iload_n 2, 1) := by decide +kernel
theorem dX10_dies_12 : decode cX10_dies 12 = .ok (.invokestatic 301, 3) := by decide +kernel
theorem dX10_dies_15 : decode cX10_dies 15 = .ok (.istore_n 3, 1) := by decide +kernel
theorem dX10_dies_16 : decode cX10_dies 16 = .ok (.aload_n 1, 1) := by decide +kernel
theorem dX10_dies_17 : decode cX10_dies 17 = .ok (.iconst 0, 1) := by decide +kernel
theorem dX10_dies_18 : decode cX10_dies 18 = .ok (.iload_n 2, 1) := by decide +kernel
theorem dX10_dies_19 : decode cX10_dies 19 = .ok (.iadd, 1) := by decide +kernel
theorem dX10_dies_20 : decode cX10_dies 20 = .ok (.iconst 3, 1) := by decide +kernel
theorem dX10_dies_21 : decode cX10_dies 21 = .ok (.iastore, 1) := by decide +kernel
theorem dX10_dies_22 : decode cX10_dies 22 = .ok (.aload_n 1, 1) := by decide +kernel
theorem dX10_dies_23 : decode cX10_dies 23 = .ok (.bipush 103, 2) := by decide +kernel
theorem dX10_dies_25 : decode cX10_dies 25 = .ok (.dup2, 1) := by decide +kernel
theorem dX10_dies_26 : decode cX10_dies 26 = .ok (.iaload, 1) := by decide +kernel
theorem dX10_dies_27 : decode cX10_dies 27 = .ok (.iconst 1, 1) := by decide +kernel
theorem dX10_dies_28 : decode cX10_dies 28 = .ok (.iadd, 1) := by decide +kernel
theorem dX10_dies_29 : decode cX10_dies 29 = .ok (.iastore, 1) := by decide +kernel
theorem dX10_dies_30 : decode cX10_dies 30 = .ok (.iload_n 3, 1) := by decide +kernel
theorem dX10_dies_31 : decode cX10_dies 31 = .ok (.iconst (-1), 1) := by decide +kernel
theorem dX10_dies_32 : decode cX10_dies 32 = .ok (.if_icmp .ne 4, 3) := by decide +kernel
theorem dX10_dies_35 : decode cX10_dies 35 = .ok (.return_, 1) := by decide +kernel
theorem dX10_dies_36 : decode cX10_dies 36 = .ok (.aload_n 1, 1) := by decide +kernel
theorem dX10_dies_37 : decode cX10_dies 37 = .ok (.iload_n 3, 1) := by decide +kernel
theorem dX10_dies_38 : decode cX10_dies 38 = .ok (.invokestatic 326, 3) := by decide +kernel
theorem dX10_dies_41 : decode cX10_dies 41 = .ok (.iload_n 3, 1) := by decide +kernel
theorem dX10_dies_42 : decode cX10_dies 42 = .ok (.ifCond .le 40, 3) := by decide +kernel
theorem dX10_dies_45 : decode cX10_dies 45 = .ok (.iload_n 3, 1) := by decide +kernel
theorem dX10_dies_46 : decode cX10_dies 46 = .ok (.aload_n 1, 1) := by decide +kernel
theorem dX10_dies_47 : decode cX10_dies 47 = .ok (.bipush 61, 2) := by decide +kernel
theorem dX10_dies_49 : decode cX10_dies 49 = .ok (.iaload, 1) := by decide +kernel
theorem dX10_dies_50 : decode cX10_dies 50 = .ok (.if_icmp .ge 32, 3) := by decide +kernel
theorem dX10_dies_53 : decode cX10_dies 53 = .ok (.aload_n 0, 1) := by decide +kernel
theorem dX10_dies_54 : decode cX10_dies 54 = .ok (.aload_n 1, 1) := by decide +kernel
theorem dX10_dies_55 : decode cX10_dies 55 = .ok (.bipush 48, 2) := by decide +kernel
theorem dX10_dies_57 : decode cX10_dies 57 = .ok (.iload_n 3, 1) := by decide +kernel
theorem dX10_dies_58 : decode cX10_dies 58 = .ok (.iadd, 1) := by decide +kernel
theorem dX10_dies_59 : decode cX10_dies 59 = .ok (.iconst 1, 1) := by decide +kernel
theorem dX10_dies_60 : decode cX10_dies 60 = .ok (.isub, 1) := by decide +kernel
theorem dX10_dies_61 : decode cX10_dies 61 = .ok (.iaload, 1) := by decide +kernel
theorem dX10_dies_62 : decode cX10_dies 62 = .ok (.aload_n 1, 1) := by decide +kernel
theorem dX10_dies_63 : decode cX10_dies 63 = .ok (.bipush 48, 2) := by decide +kernel
theorem dX10_dies_65 : decode cX10_dies 65 = .ok (.iload_n 3, 1) := by decide +kernel
theorem dX10_dies_66 : decode cX10_dies 66 = .ok (.iadd, 1) := by decide +kernel
theorem dX10_dies_67 : decode cX10_dies 67 = .ok (.iaload, 1) := by decide +kernel
theorem dX10_dies_68 : decode cX10_dies 68 = .ok (.invokevirtual 307, 3) := by decide +kernel
theorem dX10_dies_71 : decode cX10_dies 71 = .ok (.ifCond .ne 11, 3) := by decide +kernel
theorem dX10_dies_74 : decode cX10_dies 74 = .ok (.aload_n 1, 1) := by decide +kernel
theorem dX10_dies_75 : decode cX10_dies 75 = .ok (.iload_n 3, 1) := by decide +kernel
theorem dX10_dies_76 : decode cX10_dies 76 = .ok (.invokestatic 330, 3) := by decide +kernel
theorem dX10_dies_79 : decode cX10_dies 79 = .ok (.goto (-38), 3) := by decide +kernel
theorem dX10_dies_82 : decode cX10_dies 82 = .ok (.return_, 1) := by decide +kernel
def fX10_dies_41  : Nat → Nat → Nat → Int32 → zV → Option zV
  | 0 => fun _ _ _ _ => none
  | n + 1 => fun x0 x1 x3 v =>
    if x3 ≤ (0 : Int32) then
      some v
    else
      zix (61 : Int32) (zlen x1) <|
      if (v x1 ((61 : Int32)).toNatClampNeg) ≤ x3 then
        some v
      else
        zix (((48 : Int32) + x3) - (1 : Int32)) (zlen x1) <|
        zix ((48 : Int32) + x3) (zlen x1) <|
        zbind (fX10_differsOf x0 (v x1 (((48 : Int32) + x3) - (1 : Int32)).toNatClampNeg) (v x1 ((48 : Int32) + x3).toNatClampNeg) v) fun r_2 v_1 =>
        if r_2 = (0 : Int32) then
          zbindv (fX10_leaves x1 x3 v_1) fun v_3 =>
          (fX10_dies_41 n) x0 x1 x3 v_3
        else
          some v_1
set_option maxRecDepth 4000 in
theorem jX10_dies_41 (x : zCx) (G : zG) (F : zF x G cX10_dies 4 RX10 3 123) (hr : x.2.2.2.2.2.2.2.2.1.sig.returnType = (Option.none : Option FieldType)) (hk : x.2.2.2.2.2.2.2.2.1.locks = false) (w : zV)  : ∀ (n : Nat) (x0 : Nat) (t0 : zty G x0 1 10) (x1 : Nat) (t1 : zty G x1 2 0) (x3 : Int32) (v : zV), fX10_dies_41 n x0 x1 x3 v = some w → zJ x G 4 (zQ x G none w 0 0) 0 0 41 [(0, zr G x0), (1, zr G x1), (3, .int x3)] [] v := by
  intro n
  induction n with
  | zero => intro x0 t0 x1 t1 x3 v h; exact absurd h (by intro q; cases q)
  | succ n ih =>
    intro x0 t0 x1 t1 x3 v h
    rw [fX10_dies_41] at h
    dsimp only at h
    refine z_iload_n F dX10_dies_41 rfl 2 rfl ?_
    refine z_if_le F 82 dX10_dies_42 rfl (fun hc => ?_) (fun hc => ?_)
    · replace h := zif_t hc h
      cases h
      exact z_retv F hr hk dX10_dies_82
    · replace h := zif_f hc h
      refine z_iload_n F dX10_dies_45 rfl 2 rfl ?_
      refine z_aload_n F dX10_dies_46 rfl 1 rfl ?_
      refine z_bipush (y := (61 : Int32)) F dX10_dies_47 rfl ?_
      obtain ⟨hi49, h⟩ := zix_ex h
      refine z_iald F t1 dX10_dies_49 hi49 ?_
      refine z_icmp_ge F 82 dX10_dies_50 rfl (fun hc => ?_) (fun hc => ?_)
      · replace h := zif_t hc h
        cases h
        exact z_retv F hr hk dX10_dies_82
      · replace h := zif_f hc h
        refine z_aload_n F dX10_dies_53 rfl 0 rfl ?_
        refine z_aload_n F dX10_dies_54 rfl 1 rfl ?_
        refine z_bipush (y := (48 : Int32)) F dX10_dies_55 rfl ?_
        refine z_iload_n F dX10_dies_57 rfl 2 rfl ?_
        refine z_iadd F dX10_dies_58 ?_
        refine z_iconst (y := (1 : Int32)) F dX10_dies_59 rfl ?_
        refine z_isub F dX10_dies_60 ?_
        obtain ⟨hi61, h⟩ := zix_ex h
        refine z_iald F t1 dX10_dies_61 hi61 ?_
        refine z_aload_n F dX10_dies_62 rfl 1 rfl ?_
        refine z_bipush (y := (48 : Int32)) F dX10_dies_63 rfl ?_
        refine z_iload_n F dX10_dies_65 rfl 2 rfl ?_
        refine z_iadd F dX10_dies_66 ?_
        obtain ⟨hi67, h⟩ := zix_ex h
        refine z_iald F t1 dX10_dies_67 hi67 ?_
        obtain ⟨r_2, v_1, hq68, h⟩ := zbind_ex h
        refine z_callVi F [.int (v x1 (((48 : Int32) + x3) - (1 : Int32)).toNatClampNeg), .int (v x1 ((48 : Int32) + x3).toNatClampNeg)] [] (kX10_differsOf x.2.1 G x0 t0 (v x1 (((48 : Int32) + x3) - (1 : Int32)).toNatClampNeg) (v x1 ((48 : Int32) + x3).toNatClampNeg) v r_2 v_1 hq68) mI_X10_differsOf (c := 10) rfl t0 wM_X10_307 mi_X10_differsOf sl_X10_differsOf dX10_dies_68 rfl ⟨Nat.le_of_ble_eq_true rfl, Nat.le_of_ble_eq_true rfl⟩ rfl (Nat.le_of_ble_eq_true rfl) ⟨Nat.zero_le _, Nat.zero_le _⟩ ?_
        refine z_if_ne F 82 dX10_dies_71 rfl (fun hc => ?_) (fun hc => ?_)
        · replace h := zif_f hc h
          cases h
          exact z_retv F hr hk dX10_dies_82
        · replace h := zif_t hc h
          refine z_aload_n F dX10_dies_74 rfl 1 rfl ?_
          refine z_iload_n F dX10_dies_75 rfl 2 rfl ?_
          obtain ⟨v_3, hq76, h⟩ := zbindv_ex h
          refine z_callSv F [zr G x1, .int x3] [] (kX10_leaves x.2.1 G x1 t1 x3 v_1 v_3 hq76) mI_X10_leaves wM_X10_330 ms_X10_leaves dX10_dies_76 rfl ⟨Nat.le_of_ble_eq_true rfl, Nat.le_of_ble_eq_true rfl⟩ rfl (Nat.le_of_ble_eq_true rfl) ⟨Nat.zero_le _, Nat.zero_le _⟩ ?_
          refine z_goto F 41 dX10_dies_79 rfl ?_
          refine z_ls [(0, zr G x0), (1, zr G x1), (3, .int x3)] [0, 1, 2] rfl ?_
          exact ih x0 t0 x1 t1 x3 v_3 h

def fX10_dies (x0 : Nat) (x1 : Nat) (x2 : Int32) (v : zV) : Option zV :=
  zix ((0 : Int32) + x2) (zlen x1) <|
  if (v x1 ((0 : Int32) + x2).toNatClampNeg) = (3 : Int32) then
    some v
  else
    zbind (fX10_chairOf x1 x2 v) fun r_2 v_1 =>
    zix ((0 : Int32) + x2) (zlen x1) <|
    zlet (zup v_1 x1 ((0 : Int32) + x2).toNatClampNeg (3 : Int32)) fun v_3 =>
    zix (103 : Int32) (zlen x1) <|
    zix (103 : Int32) (zlen x1) <|
    zlet (zup v_3 x1 ((103 : Int32)).toNatClampNeg ((v_3 x1 ((103 : Int32)).toNatClampNeg) + (1 : Int32))) fun v_4 =>
    if r_2 = (-1 : Int32) then
      some v_4
    else
      zbindv (fX10_risesFrom x1 r_2 v_4) fun v_5 =>
      fX10_dies_41  zFU x0 x1 r_2 v_5
set_option maxRecDepth 4000 in
theorem kX10_dies (l : Launch) (G : zG) (x0 : Nat) (t0 : zty G x0 1 10) (x1 : Nat) (t1 : zty G x1 2 0) (x2 : Int32) (v : zV) (w : zV) (h : fX10_dies x0 x1 x2 v = some w) : zMet l yX10_dies cX10_dies 4 (Option.none : Option FieldType) 3 123 0 0 [zr G x0, zr G x1, .int x2] G v none w := by
  refine zM_of (own := RX10) (by decide) rfl (Nat.le_of_ble_eq_true rfl) (fun x hl F hr hk hcs => ?_)
  subst hl
  refine z_ls [(0, zr G x0), (1, zr G x1), (2, .int x2)] [0, 1, 2] rfl ?_
  unfold fX10_dies at h
  refine z_aload_n F dX10_dies_0 rfl 1 rfl ?_
  refine z_iconst (y := (0 : Int32)) F dX10_dies_1 rfl ?_
  refine z_iload_n F dX10_dies_2 rfl 2 rfl ?_
  refine z_iadd F dX10_dies_3 ?_
  obtain ⟨hi4, h⟩ := zix_ex h
  refine z_iald F t1 dX10_dies_4 hi4 ?_
  refine z_iconst (y := (3 : Int32)) F dX10_dies_5 rfl ?_
  refine z_icmp_ne F 10 dX10_dies_6 rfl (fun hc => ?_) (fun hc => ?_)
  · replace h := zif_f hc h
    refine z_aload_n F dX10_dies_10 rfl 1 rfl ?_
    refine z_iload_n F dX10_dies_11 rfl 2 rfl ?_
    obtain ⟨r_2, v_1, hq12, h⟩ := zbind_ex h
    refine z_callSi F [zr G x1, .int x2] [] (kX10_chairOf x.2.1 G x1 t1 x2 v r_2 v_1 hq12) mI_X10_chairOf wM_X10_301 ms_X10_chairOf dX10_dies_12 rfl ⟨Nat.le_of_ble_eq_true rfl, Nat.le_of_ble_eq_true rfl⟩ rfl (Nat.le_of_ble_eq_true rfl) ⟨Nat.zero_le _, Nat.zero_le _⟩ ?_
    refine z_istore_n F [(3, .int r_2), (0, zr G x0), (1, zr G x1), (2, .int x2)] dX10_dies_15 rfl (Nat.le_of_ble_eq_true rfl) rfl ?_
    refine z_aload_n F dX10_dies_16 rfl 2 rfl ?_
    refine z_iconst (y := (0 : Int32)) F dX10_dies_17 rfl ?_
    refine z_iload_n F dX10_dies_18 rfl 3 rfl ?_
    refine z_iadd F dX10_dies_19 ?_
    refine z_iconst (y := (3 : Int32)) F dX10_dies_20 rfl ?_
    obtain ⟨hi21, h⟩ := zix_ex h
    refine z_iast F t1 dX10_dies_21 hi21 ?_
    obtain ⟨v_3, ev_3, h⟩ := zlet_ex h
    refine z_heap ev_3 ?_
    refine z_aload_n F dX10_dies_22 rfl 2 rfl ?_
    refine z_bipush (y := (103 : Int32)) F dX10_dies_23 rfl ?_
    refine z_dup2 F dX10_dies_25 rfl rfl ?_
    obtain ⟨hi26, h⟩ := zix_ex h
    refine z_iald F t1 dX10_dies_26 hi26 ?_
    refine z_iconst (y := (1 : Int32)) F dX10_dies_27 rfl ?_
    refine z_iadd F dX10_dies_28 ?_
    obtain ⟨hi29, h⟩ := zix_ex h
    refine z_iast F t1 dX10_dies_29 hi29 ?_
    obtain ⟨v_4, ev_4, h⟩ := zlet_ex h
    refine z_heap ev_4 ?_
    refine z_iload_n F dX10_dies_30 rfl 0 rfl ?_
    refine z_iconst (y := (-1 : Int32)) F dX10_dies_31 rfl ?_
    refine z_icmp_ne F 36 dX10_dies_32 rfl (fun hc => ?_) (fun hc => ?_)
    · replace h := zif_f hc h
      refine z_aload_n F dX10_dies_36 rfl 2 rfl ?_
      refine z_iload_n F dX10_dies_37 rfl 0 rfl ?_
      obtain ⟨v_5, hq38, h⟩ := zbindv_ex h
      refine z_callSv F [zr G x1, .int r_2] [] (kX10_risesFrom x.2.1 G x1 t1 r_2 v_4 v_5 hq38) mI_X10_risesFrom wM_X10_326 ms_X10_risesFrom dX10_dies_38 rfl ⟨Nat.le_of_ble_eq_true rfl, Nat.le_of_ble_eq_true rfl⟩ rfl (Nat.le_of_ble_eq_true rfl) ⟨Nat.zero_le _, Nat.zero_le _⟩ ?_
      refine z_ls [(0, zr G x0), (1, zr G x1), (3, .int r_2)] [1, 2, 0] rfl ?_
      exact jX10_dies_41 x G F hr hk w   zFU x0 t0 x1 t1 r_2 v_5 h
    · replace h := zif_t hc h
      cases h
      exact z_retv F hr hk dX10_dies_35
  · replace h := zif_t hc h
    cases h
    exact z_retv F hr hk dX10_dies_9

theorem dX10_deathsOf_0 : decode cX10_deathsOf 0 = .ok (.iconst 0, 1) := by decide +kernel
theorem dX10_deathsOf_1 : decode cX10_deathsOf 1 = .ok (.istore_n 2, 1) := by decide +kernel
theorem dX10_deathsOf_2 : decode cX10_deathsOf 2 = .ok (.iload_n 2, 1) := by decide +kernel
theorem dX10_deathsOf_3 : decode cX10_deathsOf 3 = .ok (.aload_n 0, 1) := by decide +kernel
theorem dX10_deathsOf_4 : decode cX10_deathsOf 4 = .ok (.getfield 23, 3) := by decide +kernel
theorem dX10_deathsOf_7 : decode cX10_deathsOf 7 = .ok (.iconst 4, 1) := by decide +kernel
theorem dX10_deathsOf_8 : decode cX10_deathsOf 8 = .ok (.iaload, 1) := by decide +kernel
theorem dX10_deathsOf_9 : decode cX10_deathsOf 9 = .ok (.if_icmp .ge 37, 3) := by decide +kernel
theorem dX10_deathsOf_12 : decode cX10_deathsOf 12 = .ok (.aload_n 0, 1) := by decide +kernel
theorem dX10_deathsOf_13 : decode cX10_deathsOf 13 = .ok (.getfield 55, 3) := by decide +kernel
theorem dX10_deathsOf_16 : decode cX10_deathsOf 16 = .ok (.iload_n 2, 1) := by decide +kernel
theorem dX10_deathsOf_17 : decode cX10_deathsOf 17 = .ok (.aaload, 1) := by decide +kernel
theorem dX10_deathsOf_18 : decode cX10_deathsOf 18 = .ok (.iconst 0, 1) := by decide +kernel
theorem dX10_deathsOf_19 : decode cX10_deathsOf 19 = .ok (.iaload, 1) := by decide +kernel
theorem dX10_deathsOf_20 : decode cX10_deathsOf 20 = .ok (.aload_n 1, 1) := by decide +kernel
theorem dX10_deathsOf_21 : decode cX10_deathsOf 21 = .ok (.bipush 99, 2) := by decide +kernel
theorem dX10_deathsOf_23 : decode cX10_deathsOf 23 = .ok (.iaload, 1) := by decide +kernel
theorem dX10_deathsOf_24 : decode cX10_deathsOf 24 = .ok (.if_icmp .ne 16, 3) := by decide +kernel
theorem dX10_deathsOf_27 : decode cX10_deathsOf 27 = .ok (.aload_n 0, 1) := by decide +kernel
theorem dX10_deathsOf_28 : decode cX10_deathsOf 28 = .ok (.aload_n 1, 1) := by decide +kernel
theorem dX10_deathsOf_29 : decode cX10_deathsOf 29 = .ok (.aload_n 0, 1) := by decide +kernel
theorem dX10_deathsOf_30 : decode cX10_deathsOf 30 = .ok (.getfield 55, 3) := by decide +kernel
theorem dX10_deathsOf_33 : decode cX10_deathsOf 33 = .ok (.iload_n 2, 1) := by decide +kernel
theorem dX10_deathsOf_34 : decode cX10_deathsOf 34 = .ok (.aaload, 1) := by decide +kernel
theorem dX10_deathsOf_35 : decode cX10_deathsOf 35 = .ok (.iconst 1, 1) := by decide +kernel
theorem dX10_deathsOf_36 : decode cX10_deathsOf 36 = .ok (.iaload, 1) := by decide +kernel
theorem dX10_deathsOf_37 : decode cX10_deathsOf 37 = .ok (.invokevirtual 333, 3) := by decide +kernel
theorem dX10_deathsOf_40 : decode cX10_deathsOf 40 = .ok (.iinc 2 1, 3) := by decide +kernel
theorem dX10_deathsOf_43 : decode cX10_deathsOf 43 = .ok (.goto (-41), 3) := by decide +kernel
theorem dX10_deathsOf_46 : decode cX10_deathsOf 46 = .ok (.aload_n 0, 1) := by decide +kernel
theorem dX10_deathsOf_47 : decode cX10_deathsOf 47 = .ok (.getfield 103, 3) := by decide +kernel
theorem dX10_deathsOf_50 : decode cX10_deathsOf 50 = .ok (.iconst (-1), 1) := by decide +kernel
theorem dX10_deathsOf_51 : decode cX10_deathsOf 51 = .ok (.if_icmp .eq 23, 3) := by decide +kernel
theorem dX10_deathsOf_54 : decode cX10_deathsOf 54 = .ok (.aload_n 0, 1) := by decide +kernel
theorem dX10_deathsOf_55 : decode cX10_deathsOf 55 = .ok (.getfield 336, 3) := by decide +kernel
theorem dX10_deathsOf_58 : decode cX10_deathsOf 58 = .ok (.aload_n 1, 1) := by decide +kernel
theorem dX10_deathsOf_59 : decode cX10_deathsOf 59 = .ok (.bipush 99, 2) := by decide +kernel
theorem dX10_deathsOf_61 : decode cX10_deathsOf 61 = .ok (.iaload, 1) := by decide +kernel
theorem dX10_deathsOf_62 : decode cX10_deathsOf 62 = .ok (.if_icmp .ne 12, 3) := by decide +kernel
theorem dX10_deathsOf_65 : decode cX10_deathsOf 65 = .ok (.aload_n 0, 1) := by decide +kernel
theorem dX10_deathsOf_66 : decode cX10_deathsOf 66 = .ok (.aload_n 1, 1) := by decide +kernel
theorem dX10_deathsOf_67 : decode cX10_deathsOf 67 = .ok (.aload_n 0, 1) := by decide +kernel
theorem dX10_deathsOf_68 : decode cX10_deathsOf 68 = .ok (.getfield 103, 3) := by decide +kernel
theorem dX10_deathsOf_71 : decode cX10_deathsOf 71 = .ok (.invokevirtual 333, 3) := by decide +kernel
theorem dX10_deathsOf_74 : decode cX10_deathsOf 74 = .ok (.return_, 1) := by decide +kernel
def fX10_deathsOf_46  (x0 : Nat) (x1 : Nat) (v : zV) : Option zV :=
  if (v x0 46) = (-1 : Int32) then
    some v
  else
    zix (99 : Int32) (zlen x1) <|
    if (v x0 45) = (v x1 ((99 : Int32)).toNatClampNeg) then
      zbindv (fX10_dies x0 x1 (v x0 46) v) fun v_1 =>
      some v_1
    else
      some v
set_option maxRecDepth 4000 in
theorem jX10_deathsOf_46 (x : zCx) (G : zG) (F : zF x G cX10_deathsOf 3 RX10 4 146) (hr : x.2.2.2.2.2.2.2.2.1.sig.returnType = (Option.none : Option FieldType)) (hk : x.2.2.2.2.2.2.2.2.1.locks = false) (w : zV)  : ∀ (x0 : Nat) (t0 : zty G x0 1 10) (x1 : Nat) (t1 : zty G x1 2 0) (v : zV), fX10_deathsOf_46 x0 x1 v = some w → zJ x G 3 (zQ x G none w 0 0) 0 0 46 [(0, zr G x0), (1, zr G x1)] [] v := by
  intro x0 t0 x1 t1 v h
  unfold fX10_deathsOf_46 at h
  refine z_aload_n F dX10_deathsOf_46 rfl 0 rfl ?_
  refine zg_10_46 F t0 wF_X10_103 dX10_deathsOf_47 ?_
  refine z_iconst (y := (-1 : Int32)) F dX10_deathsOf_50 rfl ?_
  refine z_icmp_eq F 74 dX10_deathsOf_51 rfl (fun hc => ?_) (fun hc => ?_)
  · replace h := zif_t hc h
    cases h
    exact z_retv F hr hk dX10_deathsOf_74
  · replace h := zif_f hc h
    refine z_aload_n F dX10_deathsOf_54 rfl 0 rfl ?_
    refine zg_10_45 F t0 wF_X10_336 dX10_deathsOf_55 ?_
    refine z_aload_n F dX10_deathsOf_58 rfl 1 rfl ?_
    refine z_bipush (y := (99 : Int32)) F dX10_deathsOf_59 rfl ?_
    obtain ⟨hi61, h⟩ := zix_ex h
    refine z_iald F t1 dX10_deathsOf_61 hi61 ?_
    refine z_icmp_ne F 74 dX10_deathsOf_62 rfl (fun hc => ?_) (fun hc => ?_)
    · replace h := zif_f hc h
      cases h
      exact z_retv F hr hk dX10_deathsOf_74
    · replace h := zif_t hc h
      refine z_aload_n F dX10_deathsOf_65 rfl 0 rfl ?_
      refine z_aload_n F dX10_deathsOf_66 rfl 1 rfl ?_
      refine z_aload_n F dX10_deathsOf_67 rfl 0 rfl ?_
      refine zg_10_46 F t0 wF_X10_103 dX10_deathsOf_68 ?_
      obtain ⟨v_1, hq71, h⟩ := zbindv_ex h
      refine z_callVv F [zr G x1, .int (v x0 46)] [] (kX10_dies x.2.1 G x0 t0 x1 t1 (v x0 46) v v_1 hq71) mI_X10_dies (c := 10) rfl t0 wM_X10_333 mi_X10_dies sl_X10_dies dX10_deathsOf_71 rfl ⟨Nat.le_of_ble_eq_true rfl, Nat.le_of_ble_eq_true rfl⟩ rfl (Nat.le_of_ble_eq_true rfl) ⟨Nat.zero_le _, Nat.zero_le _⟩ ?_
      cases h
      exact z_retv F hr hk dX10_deathsOf_74

def fX10_deathsOf_2  : Nat → Nat → Nat → Int32 → zV → Option zV
  | 0 => fun _ _ _ _ => none
  | n + 1 => fun x0 x1 x2 v =>
    zix (4 : Int32) (zlen (zrf x0 12)) <|
    if (v (zrf x0 12) ((4 : Int32)).toNatClampNeg) ≤ x2 then
      fX10_deathsOf_46  x0 x1 v
    else
      zix x2 (zlen (zrf x0 22)) <|
      zix (0 : Int32) (zlen (zrf (zrf x0 22) (x2).toNatClampNeg)) <|
      zix (99 : Int32) (zlen x1) <|
      if (v (zrf (zrf x0 22) (x2).toNatClampNeg) ((0 : Int32)).toNatClampNeg) = (v x1 ((99 : Int32)).toNatClampNeg) then
        zix x2 (zlen (zrf x0 22)) <|
        zix (1 : Int32) (zlen (zrf (zrf x0 22) (x2).toNatClampNeg)) <|
        zbindv (fX10_dies x0 x1 (v (zrf (zrf x0 22) (x2).toNatClampNeg) ((1 : Int32)).toNatClampNeg) v) fun v_1 =>
        (fX10_deathsOf_2 n) x0 x1 (x2 + (1 : Int32)) v_1
      else
        (fX10_deathsOf_2 n) x0 x1 (x2 + (1 : Int32)) v
set_option maxRecDepth 4000 in
theorem jX10_deathsOf_2 (x : zCx) (G : zG) (F : zF x G cX10_deathsOf 3 RX10 4 146) (hr : x.2.2.2.2.2.2.2.2.1.sig.returnType = (Option.none : Option FieldType)) (hk : x.2.2.2.2.2.2.2.2.1.locks = false) (w : zV)  : ∀ (n : Nat) (x0 : Nat) (t0 : zty G x0 1 10) (x1 : Nat) (t1 : zty G x1 2 0) (x2 : Int32) (v : zV), fX10_deathsOf_2 n x0 x1 x2 v = some w → zJ x G 3 (zQ x G none w 0 0) 0 0 2 [(0, zr G x0), (1, zr G x1), (2, .int x2)] [] v := by
  intro n
  induction n with
  | zero => intro x0 t0 x1 t1 x2 v h; exact absurd h (by intro q; cases q)
  | succ n ih =>
    intro x0 t0 x1 t1 x2 v h
    rw [fX10_deathsOf_2] at h
    dsimp only at h
    refine z_iload_n F dX10_deathsOf_2 rfl 2 rfl ?_
    refine z_aload_n F dX10_deathsOf_3 rfl 0 rfl ?_
    refine zg_10_12 F t0 wF_X10_23 dX10_deathsOf_4 ?_
    refine z_iconst (y := (4 : Int32)) F dX10_deathsOf_7 rfl ?_
    obtain ⟨hi8, h⟩ := zix_ex h
    refine z_iald F (zt_f tc_10_12 t0) dX10_deathsOf_8 hi8 ?_
    refine z_icmp_ge F 46 dX10_deathsOf_9 rfl (fun hc => ?_) (fun hc => ?_)
    · replace h := zif_t hc h
      refine z_ls [(0, zr G x0), (1, zr G x1)] [0, 1] rfl ?_
      exact jX10_deathsOf_46 x G F hr hk w   x0 t0 x1 t1 v h
    · replace h := zif_f hc h
      refine z_aload_n F dX10_deathsOf_12 rfl 0 rfl ?_
      refine zg_10_22 F t0 wF_X10_55 dX10_deathsOf_13 ?_
      refine z_iload_n F dX10_deathsOf_16 rfl 2 rfl ?_
      obtain ⟨hi17, h⟩ := zix_ex h
      refine z_aald3 F (zt_f tc_10_22 t0) dX10_deathsOf_17 hi17 ?_
      refine z_iconst (y := (0 : Int32)) F dX10_deathsOf_18 rfl ?_
      obtain ⟨hi19, h⟩ := zix_ex h
      refine z_iald F (zt_a tcA_3 (zt_f tc_10_22 t0) (zin_lt hi17)) dX10_deathsOf_19 hi19 ?_
      refine z_aload_n F dX10_deathsOf_20 rfl 1 rfl ?_
      refine z_bipush (y := (99 : Int32)) F dX10_deathsOf_21 rfl ?_
      obtain ⟨hi23, h⟩ := zix_ex h
      refine z_iald F t1 dX10_deathsOf_23 hi23 ?_
      refine z_icmp_ne F 40 dX10_deathsOf_24 rfl (fun hc => ?_) (fun hc => ?_)
      · replace h := zif_f hc h
        refine z_iinc F [(2, .int (x2 + (1 : Int32))), (0, zr G x0), (1, zr G x1)] dX10_deathsOf_40 2 rfl rfl (Nat.le_of_ble_eq_true rfl) rfl ?_
        refine z_goto F 2 dX10_deathsOf_43 rfl ?_
        refine z_ls [(0, zr G x0), (1, zr G x1), (2, .int (x2 + (1 : Int32)))] [1, 2, 0] rfl ?_
        exact ih x0 t0 x1 t1 (x2 + (1 : Int32)) v h
      · replace h := zif_t hc h
        refine z_aload_n F dX10_deathsOf_27 rfl 0 rfl ?_
        refine z_aload_n F dX10_deathsOf_28 rfl 1 rfl ?_
        refine z_aload_n F dX10_deathsOf_29 rfl 0 rfl ?_
        refine zg_10_22 F t0 wF_X10_55 dX10_deathsOf_30 ?_
        refine z_iload_n F dX10_deathsOf_33 rfl 2 rfl ?_
        obtain ⟨hi34, h⟩ := zix_ex h
        refine z_aald3 F (zt_f tc_10_22 t0) dX10_deathsOf_34 hi34 ?_
        refine z_iconst (y := (1 : Int32)) F dX10_deathsOf_35 rfl ?_
        obtain ⟨hi36, h⟩ := zix_ex h
        refine z_iald F (zt_a tcA_3 (zt_f tc_10_22 t0) (zin_lt hi34)) dX10_deathsOf_36 hi36 ?_
        obtain ⟨v_1, hq37, h⟩ := zbindv_ex h
        refine z_callVv F [zr G x1, .int (v (zrf (zrf x0 22) (x2).toNatClampNeg) ((1 : Int32)).toNatClampNeg)] [] (kX10_dies x.2.1 G x0 t0 x1 t1 (v (zrf (zrf x0 22) (x2).toNatClampNeg) ((1 : Int32)).toNatClampNeg) v v_1 hq37) mI_X10_dies (c := 10) rfl t0 wM_X10_333 mi_X10_dies sl_X10_dies dX10_deathsOf_37 rfl ⟨Nat.le_of_ble_eq_true rfl, Nat.le_of_ble_eq_true rfl⟩ rfl (Nat.le_of_ble_eq_true rfl) ⟨Nat.zero_le _, Nat.zero_le _⟩ ?_
        refine z_iinc F [(2, .int (x2 + (1 : Int32))), (0, zr G x0), (1, zr G x1)] dX10_deathsOf_40 2 rfl rfl (Nat.le_of_ble_eq_true rfl) rfl ?_
        refine z_goto F 2 dX10_deathsOf_43 rfl ?_
        refine z_ls [(0, zr G x0), (1, zr G x1), (2, .int (x2 + (1 : Int32)))] [1, 2, 0] rfl ?_
        exact ih x0 t0 x1 t1 (x2 + (1 : Int32)) v_1 h

def fX10_deathsOf (x0 : Nat) (x1 : Nat) (v : zV) : Option zV :=
  fX10_deathsOf_2  zFU x0 x1 (0 : Int32) v
set_option maxRecDepth 4000 in
theorem kX10_deathsOf (l : Launch) (G : zG) (x0 : Nat) (t0 : zty G x0 1 10) (x1 : Nat) (t1 : zty G x1 2 0) (v : zV) (w : zV) (h : fX10_deathsOf x0 x1 v = some w) : zMet l yX10_deathsOf cX10_deathsOf 3 (Option.none : Option FieldType) 4 146 0 0 [zr G x0, zr G x1] G v none w := by
  refine zM_of (own := RX10) (by decide) rfl (Nat.le_of_ble_eq_true rfl) (fun x hl F hr hk hcs => ?_)
  subst hl
  refine z_ls [(0, zr G x0), (1, zr G x1)] [0, 1] rfl ?_
  unfold fX10_deathsOf at h
  refine z_iconst (y := (0 : Int32)) F dX10_deathsOf_0 rfl ?_
  refine z_istore_n F [(2, .int (0 : Int32)), (0, zr G x0), (1, zr G x1)] dX10_deathsOf_1 rfl (Nat.le_of_ble_eq_true rfl) rfl ?_
  refine z_ls [(0, zr G x0), (1, zr G x1), (2, .int (0 : Int32))] [1, 2, 0] rfl ?_
  exact jX10_deathsOf_2 x G F hr hk w   zFU x0 t0 x1 t1 (0 : Int32) v h

theorem dX10_fatesOf_0 : decode cX10_fatesOf 0 = .ok (.iconst 0, 1) := by decide +kernel
theorem dX10_fatesOf_1 : decode cX10_fatesOf 1 = .ok (.istore_n 2, 1) := by decide +kernel
theorem dX10_fatesOf_2 : decode cX10_fatesOf 2 = .ok (.aload_n 1, 1) := by decide +kernel
theorem dX10_fatesOf_3 : decode cX10_fatesOf 3 = .ok (.bipush 61, 2) := by decide +kernel
theorem dX10_fatesOf_5 : decode cX10_fatesOf 5 = .ok (.iaload, 1) := by decide +kernel
theorem dX10_fatesOf_6 : decode cX10_fatesOf 6 = .ok (.istore_n 3, 1) := by decide +kernel
theorem dX10_fatesOf_7 : decode cX10_fatesOf 7 = .ok (.iconst 0, 1) := by decide +kernel
theorem dX10_fatesOf_8 : decode cX10_fatesOf 8 = .ok (.istore 4, 2) := by decide +kernel
theorem dX10_fatesOf_10 : decode cX10_fatesOf 10 = .ok (.iload 4, 2) := by decide +kernel
theorem dX10_fatesOf_12 : decode cX10_fatesOf 12 = .ok (.iload_n 3, 1) := by decide +kernel
theorem dX10_fatesOf_13 : decode cX10_fatesOf 13 = .ok (.if_icmp .ge 53, 3) := by decide +kernel
theorem dX10_fatesOf_16 : decode cX10_fatesOf 16 = .ok (.aload_n 0, 1) := by decide +kernel
theorem dX10_fatesOf_17 : decode cX10_fatesOf 17 = .ok (.aload_n 0, 1) := by decide +kernel
theorem dX10_fatesOf_18 : decode cX10_fatesOf 18 = .ok (.getfield 339, 3) := by decide +kernel
theorem dX10_fatesOf_21 : decode cX10_fatesOf 21 = .ok (.ldc_w 342, 3) := by decide +kernel
theorem dX10_fatesOf_24 : decode cX10_fatesOf 24 = .ok (.imul, 1) := by decide +kernel
theorem dX10_fatesOf_25 : decode cX10_fatesOf 25 = .ok (.sipush 12345, 3) := by decide +kernel
theorem dX10_fatesOf_28 : decode cX10_fatesOf 28 = .ok (.iadd, 1) := by decide +kernel
theorem dX10_fatesOf_29 : decode cX10_fatesOf 29 = .ok (.putfield 339, 3) := by decide +kernel
theorem dX10_fatesOf_32 : decode cX10_fatesOf 32 = .ok (.iload_n 2, 1) := by decide +kernel
theorem dX10_fatesOf_33 : decode cX10_fatesOf 33 = .ok (.aload_n 0, 1) := by decide +kernel
theorem dX10_fatesOf_34 : decode cX10_fatesOf 34 = .ok (.getfield 339, 3) := by decide +kernel
theorem dX10_fatesOf_37 : decode cX10_fatesOf 37 = .ok (.bipush 16, 2) := by decide +kernel
theorem dX10_fatesOf_39 : decode cX10_fatesOf 39 = .ok (.ishr, 1) := by decide +kernel
theorem dX10_fatesOf_40 : decode cX10_fatesOf 40 = .ok (.bipush 15, 2) := by decide +kernel
theorem dX10_fatesOf_42 : decode cX10_fatesOf 42 = .ok (.iand, 1) := by decide +kernel
theorem dX10_fatesOf_43 : decode cX10_fatesOf 43 = .ok (.aload_n 0, 1) := by decide +kernel
theorem dX10_fatesOf_44 : decode cX10_fatesOf 44 = .ok (.getfield 343, 3) := by decide +kernel
theorem dX10_fatesOf_47 : decode cX10_fatesOf 47 = .ok (.if_icmp .ge 10, 3) := by decide +kernel
theorem dX10_fatesOf_50 : decode cX10_fatesOf 50 = .ok (.iconst 1, 1) := by decide +kernel
theorem dX10_fatesOf_51 : decode cX10_fatesOf 51 = .ok (.iload 4, 2) := by decide +kernel
theorem dX10_fatesOf_53 : decode cX10_fatesOf 53 = .ok (.ishl, 1) := by decide +kernel
theorem dX10_fatesOf_54 : decode cX10_fatesOf 54 = .ok (.goto 4, 3) := by decide +kernel
theorem dX10_fatesOf_57 : decode cX10_fatesOf 57 = .ok (.iconst 0, 1) := by decide +kernel
theorem dX10_fatesOf_58 : decode cX10_fatesOf 58 = .ok (.ior, 1) := by decide +kernel
theorem dX10_fatesOf_59 : decode cX10_fatesOf 59 = .ok (.istore_n 2, 1) := by decide +kernel
theorem dX10_fatesOf_60 : decode cX10_fatesOf 60 = .ok (.iinc 4 1, 3) := by decide +kernel
theorem dX10_fatesOf_63 : decode cX10_fatesOf 63 = .ok (.goto (-53), 3) := by decide +kernel
theorem dX10_fatesOf_66 : decode cX10_fatesOf 66 = .ok (.iconst 0, 1) := by decide +kernel
theorem dX10_fatesOf_67 : decode cX10_fatesOf 67 = .ok (.istore 4, 2) := by decide +kernel
theorem dX10_fatesOf_69 : decode cX10_fatesOf 69 = .ok (.iload 4, 2) := by decide +kernel
theorem dX10_fatesOf_71 : decode cX10_fatesOf 71 = .ok (.iload_n 3, 1) := by decide +kernel
theorem dX10_fatesOf_72 : decode cX10_fatesOf 72 = .ok (.if_icmp .ge 23, 3) := by decide +kernel
theorem dX10_fatesOf_75 : decode cX10_fatesOf 75 = .ok (.aload_n 0, 1) := by decide +kernel
theorem dX10_fatesOf_76 : decode cX10_fatesOf 76 = .ok (.getfield 106, 3) := by decide +kernel
theorem dX10_fatesOf_79 : decode cX10_fatesOf 79 = .ok (.iload 4, 2) := by decide +kernel
theorem dX10_fatesOf_81 : decode cX10_fatesOf 81 = .ok (.aload_n 1, 1) := by decide +kernel
theorem dX10_fatesOf_82 : decode cX10_fatesOf 82 = .ok (.bipush 48, 2) := by decide +kernel
theorem dX10_fatesOf_84 : decode cX10_fatesOf 84 = .ok (.iload 4, 2) := by decide +kernel
theorem dX10_fatesOf_86 : decode cX10_fatesOf 86 = .ok (.iadd, 1) := by decide +kernel
theorem dX10_fatesOf_87 : decode cX10_fatesOf 87 = .ok (.iaload, 1) := by decide +kernel
theorem dX10_fatesOf_88 : decode cX10_fatesOf 88 = .ok (.iastore, 1) := by decide +kernel
theorem dX10_fatesOf_89 : decode cX10_fatesOf 89 = .ok (.iinc 4 1, 3) := by decide +kernel
theorem dX10_fatesOf_92 : decode cX10_fatesOf 92 = .ok (.goto (-23), 3) := by decide +kernel
theorem dX10_fatesOf_95 : decode cX10_fatesOf 95 = .ok (.iconst 0, 1) := by decide +kernel
theorem dX10_fatesOf_96 : decode cX10_fatesOf 96 = .ok (.istore 4, 2) := by decide +kernel
theorem dX10_fatesOf_98 : decode cX10_fatesOf 98 = .ok (.iload 4, 2) := by decide +kernel
theorem dX10_fatesOf_100 : decode cX10_fatesOf 100 = .ok (.iload_n 3, 1) := by decide +kernel
theorem dX10_fatesOf_101 : decode cX10_fatesOf 101 = .ok (.if_icmp .ge 31, 3) := by decide +kernel
theorem dX10_fatesOf_104 : decode cX10_fatesOf 104 = .ok (.iload_n 2, 1) := by decide +kernel
theorem dX10_fatesOf_105 : decode cX10_fatesOf 105 = .ok (.iload 4, 2) := by decide +kernel
theorem dX10_fatesOf_107 : decode cX10_fatesOf 107 = .ok (.ishr, 1) := by decide +kernel
theorem dX10_fatesOf_108 : decode cX10_fatesOf 108 = .ok (.iconst 1, 1) := by decide +kernel
theorem dX10_fatesOf_109 : decode cX10_fatesOf 109 = .ok (.iand, 1) := by decide +kernel
theorem dX10_fatesOf_110 : decode cX10_fatesOf 110 = .ok (.iconst 1, 1) := by decide +kernel
theorem dX10_fatesOf_111 : decode cX10_fatesOf 111 = .ok (.if_icmp .ne 15, 3) := by decide +kernel
theorem dX10_fatesOf_114 : decode cX10_fatesOf 114 = .ok (.aload_n 0, 1) := by decide +kernel
theorem dX10_fatesOf_115 : decode cX10_fatesOf 115 = .ok (.aload_n 1, 1) := by decide +kernel
theorem dX10_fatesOf_116 : decode cX10_fatesOf 116 = .ok (.aload_n 0, 1) := by decide +kernel
theorem dX10_fatesOf_117 : decode cX10_fatesOf 117 = .ok (.getfield 106, 3) := by decide +kernel
theorem dX10_fatesOf_120 : decode cX10_fatesOf 120 = .ok (.iload 4, 2) := by decide +kernel
theorem dX10_fatesOf_122 : decode cX10_fatesOf 122 = .ok (.iaload, 1) := by decide +kernel
theorem dX10_fatesOf_123 : decode cX10_fatesOf 123 = .ok (.invokevirtual 333, 3) := by decide +kernel
theorem dX10_fatesOf_126 : decode cX10_fatesOf 126 = .ok (.iinc 4 1, 3) := by decide +kernel
theorem dX10_fatesOf_129 : decode cX10_fatesOf 129 = .ok (.goto (-31), 3) := by decide +kernel
theorem dX10_fatesOf_132 : decode cX10_fatesOf 132 = .ok (.return_, 1) := by decide +kernel
def fX10_fatesOf_98  : Nat → Nat → Nat → Int32 → Int32 → Int32 → zV → Option zV
  | 0 => fun _ _ _ _ _ _ => none
  | n + 1 => fun x0 x1 x2 x3 x4 v =>
    if x3 ≤ x4 then
      some v
    else
      if ((x2 >>> (x4 &&& 31)) &&& (1 : Int32)) = (1 : Int32) then
        zix x4 (zlen (zrf x0 49)) <|
        zbindv (fX10_dies x0 x1 (v (zrf x0 49) (x4).toNatClampNeg) v) fun v_1 =>
        (fX10_fatesOf_98 n) x0 x1 x2 x3 (x4 + (1 : Int32)) v_1
      else
        (fX10_fatesOf_98 n) x0 x1 x2 x3 (x4 + (1 : Int32)) v
set_option maxRecDepth 4000 in
theorem jX10_fatesOf_98 (x : zCx) (G : zG) (F : zF x G cX10_fatesOf 5 RX10 4 146) (hr : x.2.2.2.2.2.2.2.2.1.sig.returnType = (Option.none : Option FieldType)) (hk : x.2.2.2.2.2.2.2.2.1.locks = false) (w : zV)  : ∀ (n : Nat) (x0 : Nat) (t0 : zty G x0 1 10) (x1 : Nat) (t1 : zty G x1 2 0) (x2 : Int32) (x3 : Int32) (x4 : Int32) (v : zV), fX10_fatesOf_98 n x0 x1 x2 x3 x4 v = some w → zJ x G 5 (zQ x G none w 0 0) 0 0 98 [(0, zr G x0), (1, zr G x1), (2, .int x2), (3, .int x3), (4, .int x4)] [] v := by
  intro n
  induction n with
  | zero => intro x0 t0 x1 t1 x2 x3 x4 v h; exact absurd h (by intro q; cases q)
  | succ n ih =>
    intro x0 t0 x1 t1 x2 x3 x4 v h
    rw [fX10_fatesOf_98] at h
    dsimp only at h
    refine z_iload F dX10_fatesOf_98 4 rfl ?_
    refine z_iload_n F dX10_fatesOf_100 rfl 3 rfl ?_
    refine z_icmp_ge F 132 dX10_fatesOf_101 rfl (fun hc => ?_) (fun hc => ?_)
    · replace h := zif_t hc h
      cases h
      exact z_retv F hr hk dX10_fatesOf_132
    · replace h := zif_f hc h
      refine z_iload_n F dX10_fatesOf_104 rfl 2 rfl ?_
      refine z_iload F dX10_fatesOf_105 4 rfl ?_
      refine z_ishr F dX10_fatesOf_107 ?_
      refine z_iconst (y := (1 : Int32)) F dX10_fatesOf_108 rfl ?_
      refine z_iand F dX10_fatesOf_109 ?_
      refine z_iconst (y := (1 : Int32)) F dX10_fatesOf_110 rfl ?_
      refine z_icmp_ne F 126 dX10_fatesOf_111 rfl (fun hc => ?_) (fun hc => ?_)
      · replace h := zif_f hc h
        refine z_iinc F [(4, .int (x4 + (1 : Int32))), (0, zr G x0), (1, zr G x1), (2, .int x2), (3, .int x3)] dX10_fatesOf_126 4 rfl rfl (Nat.le_of_ble_eq_true rfl) rfl ?_
        refine z_goto F 98 dX10_fatesOf_129 rfl ?_
        refine z_ls [(0, zr G x0), (1, zr G x1), (2, .int x2), (3, .int x3), (4, .int (x4 + (1 : Int32)))] [1, 2, 3, 4, 0] rfl ?_
        exact ih x0 t0 x1 t1 x2 x3 (x4 + (1 : Int32)) v h
      · replace h := zif_t hc h
        refine z_aload_n F dX10_fatesOf_114 rfl 0 rfl ?_
        refine z_aload_n F dX10_fatesOf_115 rfl 1 rfl ?_
        refine z_aload_n F dX10_fatesOf_116 rfl 0 rfl ?_
        refine zg_10_49 F t0 wF_X10_106 dX10_fatesOf_117 ?_
        refine z_iload F dX10_fatesOf_120 4 rfl ?_
        obtain ⟨hi122, h⟩ := zix_ex h
        refine z_iald F (zt_f tc_10_49 t0) dX10_fatesOf_122 hi122 ?_
        obtain ⟨v_1, hq123, h⟩ := zbindv_ex h
        refine z_callVv F [zr G x1, .int (v (zrf x0 49) (x4).toNatClampNeg)] [] (kX10_dies x.2.1 G x0 t0 x1 t1 (v (zrf x0 49) (x4).toNatClampNeg) v v_1 hq123) mI_X10_dies (c := 10) rfl t0 wM_X10_333 mi_X10_dies sl_X10_dies dX10_fatesOf_123 rfl ⟨Nat.le_of_ble_eq_true rfl, Nat.le_of_ble_eq_true rfl⟩ rfl (Nat.le_of_ble_eq_true rfl) ⟨Nat.zero_le _, Nat.zero_le _⟩ ?_
        refine z_iinc F [(4, .int (x4 + (1 : Int32))), (0, zr G x0), (1, zr G x1), (2, .int x2), (3, .int x3)] dX10_fatesOf_126 4 rfl rfl (Nat.le_of_ble_eq_true rfl) rfl ?_
        refine z_goto F 98 dX10_fatesOf_129 rfl ?_
        refine z_ls [(0, zr G x0), (1, zr G x1), (2, .int x2), (3, .int x3), (4, .int (x4 + (1 : Int32)))] [1, 2, 3, 4, 0] rfl ?_
        exact ih x0 t0 x1 t1 x2 x3 (x4 + (1 : Int32)) v_1 h

def fX10_fatesOf_69  : Nat → Nat → Nat → Int32 → Int32 → Int32 → zV → Option zV
  | 0 => fun _ _ _ _ _ _ => none
  | n + 1 => fun x0 x1 x2 x3 x4 v =>
    if x3 ≤ x4 then
      fX10_fatesOf_98  zFU x0 x1 x2 x3 (0 : Int32) v
    else
      zix ((48 : Int32) + x4) (zlen x1) <|
      zix x4 (zlen (zrf x0 49)) <|
      zlet (zup v (zrf x0 49) (x4).toNatClampNeg (v x1 ((48 : Int32) + x4).toNatClampNeg)) fun v_1 =>
      (fX10_fatesOf_69 n) x0 x1 x2 x3 (x4 + (1 : Int32)) v_1
set_option maxRecDepth 4000 in
theorem jX10_fatesOf_69 (x : zCx) (G : zG) (F : zF x G cX10_fatesOf 5 RX10 4 146) (hr : x.2.2.2.2.2.2.2.2.1.sig.returnType = (Option.none : Option FieldType)) (hk : x.2.2.2.2.2.2.2.2.1.locks = false) (w : zV)  : ∀ (n : Nat) (x0 : Nat) (t0 : zty G x0 1 10) (x1 : Nat) (t1 : zty G x1 2 0) (x2 : Int32) (x3 : Int32) (x4 : Int32) (v : zV), fX10_fatesOf_69 n x0 x1 x2 x3 x4 v = some w → zJ x G 5 (zQ x G none w 0 0) 0 0 69 [(0, zr G x0), (1, zr G x1), (2, .int x2), (3, .int x3), (4, .int x4)] [] v := by
  intro n
  induction n with
  | zero => intro x0 t0 x1 t1 x2 x3 x4 v h; exact absurd h (by intro q; cases q)
  | succ n ih =>
    intro x0 t0 x1 t1 x2 x3 x4 v h
    rw [fX10_fatesOf_69] at h
    dsimp only at h
    refine z_iload F dX10_fatesOf_69 4 rfl ?_
    refine z_iload_n F dX10_fatesOf_71 rfl 3 rfl ?_
    refine z_icmp_ge F 95 dX10_fatesOf_72 rfl (fun hc => ?_) (fun hc => ?_)
    · replace h := zif_t hc h
      refine z_iconst (y := (0 : Int32)) F dX10_fatesOf_95 rfl ?_
      refine z_istore (n := 0) F [(4, .int (0 : Int32)), (0, zr G x0), (1, zr G x1), (2, .int x2), (3, .int x3)] dX10_fatesOf_96 (Nat.le_of_ble_eq_true rfl) rfl ?_
      refine z_ls [(0, zr G x0), (1, zr G x1), (2, .int x2), (3, .int x3), (4, .int (0 : Int32))] [1, 2, 3, 4, 0] rfl ?_
      exact jX10_fatesOf_98 x G F hr hk w   zFU x0 t0 x1 t1 x2 x3 (0 : Int32) v h
    · replace h := zif_f hc h
      refine z_aload_n F dX10_fatesOf_75 rfl 0 rfl ?_
      refine zg_10_49 F t0 wF_X10_106 dX10_fatesOf_76 ?_
      refine z_iload F dX10_fatesOf_79 4 rfl ?_
      refine z_aload_n F dX10_fatesOf_81 rfl 1 rfl ?_
      refine z_bipush (y := (48 : Int32)) F dX10_fatesOf_82 rfl ?_
      refine z_iload F dX10_fatesOf_84 4 rfl ?_
      refine z_iadd F dX10_fatesOf_86 ?_
      obtain ⟨hi87, h⟩ := zix_ex h
      refine z_iald F t1 dX10_fatesOf_87 hi87 ?_
      obtain ⟨hi88, h⟩ := zix_ex h
      refine z_iast F (zt_f tc_10_49 t0) dX10_fatesOf_88 hi88 ?_
      obtain ⟨v_1, ev_1, h⟩ := zlet_ex h
      refine z_heap ev_1 ?_
      refine z_iinc F [(4, .int (x4 + (1 : Int32))), (0, zr G x0), (1, zr G x1), (2, .int x2), (3, .int x3)] dX10_fatesOf_89 4 rfl rfl (Nat.le_of_ble_eq_true rfl) rfl ?_
      refine z_goto F 69 dX10_fatesOf_92 rfl ?_
      refine z_ls [(0, zr G x0), (1, zr G x1), (2, .int x2), (3, .int x3), (4, .int (x4 + (1 : Int32)))] [1, 2, 3, 4, 0] rfl ?_
      exact ih x0 t0 x1 t1 x2 x3 (x4 + (1 : Int32)) v_1 h

def fX10_fatesOf_10  : Nat → Nat → Nat → Int32 → Int32 → Int32 → zV → Option zV
  | 0 => fun _ _ _ _ _ _ => none
  | n + 1 => fun x0 x1 x2 x3 x4 v =>
    if x3 ≤ x4 then
      fX10_fatesOf_69  zFU x0 x1 x2 x3 (0 : Int32) v
    else
      zlet (zup v x0 48 (((v x0 48) * (1103515245 : Int32)) + (12345 : Int32))) fun v_1 =>
      if (v_1 x0 47) ≤ (((v_1 x0 48) >>> ((16 : Int32) &&& 31)) &&& (15 : Int32)) then
        (fX10_fatesOf_10 n) x0 x1 (x2 ||| (0 : Int32)) x3 (x4 + (1 : Int32)) v_1
      else
        (fX10_fatesOf_10 n) x0 x1 (x2 ||| ((1 : Int32) <<< (x4 &&& 31))) x3 (x4 + (1 : Int32)) v_1
set_option maxRecDepth 4000 in
theorem jX10_fatesOf_10 (x : zCx) (G : zG) (F : zF x G cX10_fatesOf 5 RX10 4 146) (hr : x.2.2.2.2.2.2.2.2.1.sig.returnType = (Option.none : Option FieldType)) (hk : x.2.2.2.2.2.2.2.2.1.locks = false) (w : zV)  : ∀ (n : Nat) (x0 : Nat) (t0 : zty G x0 1 10) (x1 : Nat) (t1 : zty G x1 2 0) (x2 : Int32) (x3 : Int32) (x4 : Int32) (v : zV), fX10_fatesOf_10 n x0 x1 x2 x3 x4 v = some w → zJ x G 5 (zQ x G none w 0 0) 0 0 10 [(0, zr G x0), (1, zr G x1), (2, .int x2), (3, .int x3), (4, .int x4)] [] v := by
  intro n
  induction n with
  | zero => intro x0 t0 x1 t1 x2 x3 x4 v h; exact absurd h (by intro q; cases q)
  | succ n ih =>
    intro x0 t0 x1 t1 x2 x3 x4 v h
    rw [fX10_fatesOf_10] at h
    dsimp only at h
    refine z_iload F dX10_fatesOf_10 4 rfl ?_
    refine z_iload_n F dX10_fatesOf_12 rfl 3 rfl ?_
    refine z_icmp_ge F 66 dX10_fatesOf_13 rfl (fun hc => ?_) (fun hc => ?_)
    · replace h := zif_t hc h
      refine z_iconst (y := (0 : Int32)) F dX10_fatesOf_66 rfl ?_
      refine z_istore (n := 0) F [(4, .int (0 : Int32)), (0, zr G x0), (1, zr G x1), (2, .int x2), (3, .int x3)] dX10_fatesOf_67 (Nat.le_of_ble_eq_true rfl) rfl ?_
      refine z_ls [(0, zr G x0), (1, zr G x1), (2, .int x2), (3, .int x3), (4, .int (0 : Int32))] [1, 2, 3, 4, 0] rfl ?_
      exact jX10_fatesOf_69 x G F hr hk w   zFU x0 t0 x1 t1 x2 x3 (0 : Int32) v h
    · replace h := zif_f hc h
      refine z_aload_n F dX10_fatesOf_16 rfl 0 rfl ?_
      refine z_aload_n F dX10_fatesOf_17 rfl 0 rfl ?_
      refine zg_10_48 F t0 wF_X10_339 dX10_fatesOf_18 ?_
      refine z_ldcw (y := (1103515245 : Int32)) F kC_RX10_342 dX10_fatesOf_21 ?_
      refine z_imul F dX10_fatesOf_24 ?_
      refine z_sipush (y := (12345 : Int32)) F dX10_fatesOf_25 rfl ?_
      refine z_iadd F dX10_fatesOf_28 ?_
      refine zp_10_48 F t0 wF_X10_339 dX10_fatesOf_29 ?_
      obtain ⟨v_1, ev_1, h⟩ := zlet_ex h
      refine z_heap ev_1 ?_
      refine z_iload_n F dX10_fatesOf_32 rfl 2 rfl ?_
      refine z_aload_n F dX10_fatesOf_33 rfl 0 rfl ?_
      refine zg_10_48 F t0 wF_X10_339 dX10_fatesOf_34 ?_
      refine z_bipush (y := (16 : Int32)) F dX10_fatesOf_37 rfl ?_
      refine z_ishr F dX10_fatesOf_39 ?_
      refine z_bipush (y := (15 : Int32)) F dX10_fatesOf_40 rfl ?_
      refine z_iand F dX10_fatesOf_42 ?_
      refine z_aload_n F dX10_fatesOf_43 rfl 0 rfl ?_
      refine zg_10_47 F t0 wF_X10_343 dX10_fatesOf_44 ?_
      refine z_icmp_ge F 57 dX10_fatesOf_47 rfl (fun hc => ?_) (fun hc => ?_)
      · replace h := zif_t hc h
        refine z_iconst (y := (0 : Int32)) F dX10_fatesOf_57 rfl ?_
        refine z_ior F dX10_fatesOf_58 ?_
        refine z_istore_n F [(2, .int (x2 ||| (0 : Int32))), (0, zr G x0), (1, zr G x1), (3, .int x3), (4, .int x4)] dX10_fatesOf_59 rfl (Nat.le_of_ble_eq_true rfl) rfl ?_
        refine z_iinc F [(4, .int (x4 + (1 : Int32))), (2, .int (x2 ||| (0 : Int32))), (0, zr G x0), (1, zr G x1), (3, .int x3)] dX10_fatesOf_60 4 rfl rfl (Nat.le_of_ble_eq_true rfl) rfl ?_
        refine z_goto F 10 dX10_fatesOf_63 rfl ?_
        refine z_ls [(0, zr G x0), (1, zr G x1), (2, .int (x2 ||| (0 : Int32))), (3, .int x3), (4, .int (x4 + (1 : Int32)))] [2, 3, 1, 4, 0] rfl ?_
        exact ih x0 t0 x1 t1 (x2 ||| (0 : Int32)) x3 (x4 + (1 : Int32)) v_1 h
      · replace h := zif_f hc h
        refine z_iconst (y := (1 : Int32)) F dX10_fatesOf_50 rfl ?_
        refine z_iload F dX10_fatesOf_51 4 rfl ?_
        refine z_ishl F dX10_fatesOf_53 ?_
        refine z_goto F 58 dX10_fatesOf_54 rfl ?_
        refine z_ior F dX10_fatesOf_58 ?_
        refine z_istore_n F [(2, .int (x2 ||| ((1 : Int32) <<< (x4 &&& 31)))), (0, zr G x0), (1, zr G x1), (3, .int x3), (4, .int x4)] dX10_fatesOf_59 rfl (Nat.le_of_ble_eq_true rfl) rfl ?_
        refine z_iinc F [(4, .int (x4 + (1 : Int32))), (2, .int (x2 ||| ((1 : Int32) <<< (x4 &&& 31)))), (0, zr G x0), (1, zr G x1), (3, .int x3)] dX10_fatesOf_60 4 rfl rfl (Nat.le_of_ble_eq_true rfl) rfl ?_
        refine z_goto F 10 dX10_fatesOf_63 rfl ?_
        refine z_ls [(0, zr G x0), (1, zr G x1), (2, .int (x2 ||| ((1 : Int32) <<< (x4 &&& 31)))), (3, .int x3), (4, .int (x4 + (1 : Int32)))] [2, 3, 1, 4, 0] rfl ?_
        exact ih x0 t0 x1 t1 (x2 ||| ((1 : Int32) <<< (x4 &&& 31))) x3 (x4 + (1 : Int32)) v_1 h

def fX10_fatesOf (x0 : Nat) (x1 : Nat) (v : zV) : Option zV :=
  zix (61 : Int32) (zlen x1) <|
  fX10_fatesOf_10  zFU x0 x1 (0 : Int32) (v x1 ((61 : Int32)).toNatClampNeg) (0 : Int32) v
set_option maxRecDepth 4000 in
theorem kX10_fatesOf (l : Launch) (G : zG) (x0 : Nat) (t0 : zty G x0 1 10) (x1 : Nat) (t1 : zty G x1 2 0) (v : zV) (w : zV) (h : fX10_fatesOf x0 x1 v = some w) : zMet l yX10_fatesOf cX10_fatesOf 5 (Option.none : Option FieldType) 4 146 0 0 [zr G x0, zr G x1] G v none w := by
  refine zM_of (own := RX10) (by decide) rfl (Nat.le_of_ble_eq_true rfl) (fun x hl F hr hk hcs => ?_)
  subst hl
  refine z_ls [(0, zr G x0), (1, zr G x1)] [0, 1] rfl ?_
  unfold fX10_fatesOf at h
  refine z_iconst (y := (0 : Int32)) F dX10_fatesOf_0 rfl ?_
  refine z_istore_n F [(2, .int (0 : Int32)), (0, zr G x0), (1, zr G x1)] dX10_fatesOf_1 rfl (Nat.le_of_ble_eq_true rfl) rfl ?_
  refine z_aload_n F dX10_fatesOf_2 rfl 2 rfl ?_
  refine z_bipush (y := (61 : Int32)) F dX10_fatesOf_3 rfl ?_
  obtain ⟨hi5, h⟩ := zix_ex h
  refine z_iald F t1 dX10_fatesOf_5 hi5 ?_
  refine z_istore_n F [(3, .int (v x1 ((61 : Int32)).toNatClampNeg)), (2, .int (0 : Int32)), (0, zr G x0), (1, zr G x1)] dX10_fatesOf_6 rfl (Nat.le_of_ble_eq_true rfl) rfl ?_
  refine z_iconst (y := (0 : Int32)) F dX10_fatesOf_7 rfl ?_
  refine z_istore (n := 0) F [(4, .int (0 : Int32)), (3, .int (v x1 ((61 : Int32)).toNatClampNeg)), (2, .int (0 : Int32)), (0, zr G x0), (1, zr G x1)] dX10_fatesOf_8 (Nat.le_of_ble_eq_true rfl) rfl ?_
  refine z_ls [(0, zr G x0), (1, zr G x1), (2, .int (0 : Int32)), (3, .int (v x1 ((61 : Int32)).toNatClampNeg)), (4, .int (0 : Int32))] [3, 4, 2, 1, 0] rfl ?_
  exact jX10_fatesOf_10 x G F hr hk w   zFU x0 t0 x1 t1 (0 : Int32) (v x1 ((61 : Int32)).toNatClampNeg) (0 : Int32) v h

theorem dX10_goes_0 : decode cX10_goes 0 = .ok (.aload_n 0, 1) := by decide +kernel
theorem dX10_goes_1 : decode cX10_goes 1 = .ok (.aload_n 1, 1) := by decide +kernel
theorem dX10_goes_2 : decode cX10_goes 2 = .ok (.invokevirtual 346, 3) := by decide +kernel
theorem dX10_goes_5 : decode cX10_goes 5 = .ok (.aload_n 0, 1) := by decide +kernel
theorem dX10_goes_6 : decode cX10_goes 6 = .ok (.getfield 343, 3) := by decide +kernel
theorem dX10_goes_9 : decode cX10_goes 9 = .ok (.ifCond .le 8, 3) := by decide +kernel
theorem dX10_goes_12 : decode cX10_goes 12 = .ok (.aload_n 0, 1) := by decide +kernel
theorem dX10_goes_13 : decode cX10_goes 13 = .ok (.aload_n 1, 1) := by decide +kernel
theorem dX10_goes_14 : decode cX10_goes 14 = .ok (.invokevirtual 350, 3) := by decide +kernel
theorem dX10_goes_17 : decode cX10_goes 17 = .ok (.aload_n 0, 1) := by decide +kernel
theorem dX10_goes_18 : decode cX10_goes 18 = .ok (.aload_n 1, 1) := by decide +kernel
theorem dX10_goes_19 : decode cX10_goes 19 = .ok (.invokevirtual 353, 3) := by decide +kernel
theorem dX10_goes_22 : decode cX10_goes 22 = .ok (.istore_n 2, 1) := by decide +kernel
theorem dX10_goes_23 : decode cX10_goes 23 = .ok (.iload_n 2, 1) := by decide +kernel
theorem dX10_goes_24 : decode cX10_goes 24 = .ok (.iconst (-1), 1) := by decide +kernel
theorem dX10_goes_25 : decode cX10_goes 25 = .ok (.if_icmp .ne 14, 3) := by decide +kernel
theorem dX10_goes_28 : decode cX10_goes 28 = .ok (.aload_n 1, 1) := by decide +kernel
theorem dX10_goes_29 : decode cX10_goes 29 = .ok (.bipush 100, 2) := by decide +kernel
theorem dX10_goes_31 : decode cX10_goes 31 = .ok (.dup2, 1) := by decide +kernel
theorem dX10_goes_32 : decode cX10_goes 32 = .ok (.iaload, 1) := by decide +kernel
theorem dX10_goes_33 : decode cX10_goes 33 = .ok (.iconst 1, 1) := by decide +kernel
theorem dX10_goes_34 : decode cX10_goes 34 = .ok (.iadd, 1) := by decide +kernel
theorem dX10_goes_35 : decode cX10_goes 35 = .ok (.iastore, 1) := by decide +kernel
theorem dX10_goes_36 : decode cX10_goes 36 = .ok (.goto 45, 3) := by decide +kernel
theorem dX10_goes_39 : decode cX10_goes 39 = .ok (.aload_n 1, 1) := by decide +kernel
theorem dX10_goes_40 : decode cX10_goes 40 = .ok (.iconst 0, 1) := by decide +kernel
theorem dX10_goes_41 : decode cX10_goes 41 = .ok (.iload_n 2, 1) := by decide +kernel
theorem dX10_goes_42 : decode cX10_goes 42 = .ok (.iadd, 1) := by decide +kernel
theorem dX10_goes_43 : decode cX10_goes 43 = .ok (.iconst 1, 1) := by decide +kernel
theorem dX10_goes_44 : decode cX10_goes 44 = .ok (.iastore, 1) := by decide +kernel
theorem dX10_goes_45 : decode cX10_goes 45 = .ok (.aload_n 1, 1) := by decide +kernel
theorem dX10_goes_46 : decode cX10_goes 46 = .ok (.bipush 32, 2) := by decide +kernel
theorem dX10_goes_48 : decode cX10_goes 48 = .ok (.iload_n 2, 1) := by decide +kernel
theorem dX10_goes_49 : decode cX10_goes 49 = .ok (.iadd, 1) := by decide +kernel
theorem dX10_goes_50 : decode cX10_goes 50 = .ok (.aload_n 1, 1) := by decide +kernel
theorem dX10_goes_51 : decode cX10_goes 51 = .ok (.bipush 99, 2) := by decide +kernel
theorem dX10_goes_53 : decode cX10_goes 53 = .ok (.iaload, 1) := by decide +kernel
theorem dX10_goes_54 : decode cX10_goes 54 = .ok (.iastore, 1) := by decide +kernel
theorem dX10_goes_55 : decode cX10_goes 55 = .ok (.aload_n 1, 1) := by decide +kernel
theorem dX10_goes_56 : decode cX10_goes 56 = .ok (.bipush 48, 2) := by decide +kernel
theorem dX10_goes_58 : decode cX10_goes 58 = .ok (.aload_n 1, 1) := by decide +kernel
theorem dX10_goes_59 : decode cX10_goes 59 = .ok (.bipush 61, 2) := by decide +kernel
theorem dX10_goes_61 : decode cX10_goes 61 = .ok (.iaload, 1) := by decide +kernel
theorem dX10_goes_62 : decode cX10_goes 62 = .ok (.iadd, 1) := by decide +kernel
theorem dX10_goes_63 : decode cX10_goes 63 = .ok (.iload_n 2, 1) := by decide +kernel
theorem dX10_goes_64 : decode cX10_goes 64 = .ok (.iastore, 1) := by decide +kernel
theorem dX10_goes_65 : decode cX10_goes 65 = .ok (.aload_n 1, 1) := by decide +kernel
theorem dX10_goes_66 : decode cX10_goes 66 = .ok (.bipush 61, 2) := by decide +kernel
theorem dX10_goes_68 : decode cX10_goes 68 = .ok (.dup2, 1) := by decide +kernel
theorem dX10_goes_69 : decode cX10_goes 69 = .ok (.iaload, 1) := by decide +kernel
theorem dX10_goes_70 : decode cX10_goes 70 = .ok (.iconst 1, 1) := by decide +kernel
theorem dX10_goes_71 : decode cX10_goes 71 = .ok (.iadd, 1) := by decide +kernel
theorem dX10_goes_72 : decode cX10_goes 72 = .ok (.iastore, 1) := by decide +kernel
theorem dX10_goes_73 : decode cX10_goes 73 = .ok (.aload_n 1, 1) := by decide +kernel
theorem dX10_goes_74 : decode cX10_goes 74 = .ok (.bipush 101, 2) := by decide +kernel
theorem dX10_goes_76 : decode cX10_goes 76 = .ok (.dup2, 1) := by decide +kernel
theorem dX10_goes_77 : decode cX10_goes 77 = .ok (.iaload, 1) := by decide +kernel
theorem dX10_goes_78 : decode cX10_goes 78 = .ok (.iconst 1, 1) := by decide +kernel
theorem dX10_goes_79 : decode cX10_goes 79 = .ok (.iadd, 1) := by decide +kernel
theorem dX10_goes_80 : decode cX10_goes 80 = .ok (.iastore, 1) := by decide +kernel
theorem dX10_goes_81 : decode cX10_goes 81 = .ok (.aload_n 1, 1) := by decide +kernel
theorem dX10_goes_82 : decode cX10_goes 82 = .ok (.bipush 61, 2) := by decide +kernel
theorem dX10_goes_84 : decode cX10_goes 84 = .ok (.iaload, 1) := by decide +kernel
theorem dX10_goes_85 : decode cX10_goes 85 = .ok (.aload_n 0, 1) := by decide +kernel
theorem dX10_goes_86 : decode cX10_goes 86 = .ok (.getfield 23, 3) := by decide +kernel
theorem dX10_goes_89 : decode cX10_goes 89 = .ok (.iconst 2, 1) := by decide +kernel
theorem dX10_goes_90 : decode cX10_goes 90 = .ok (.iaload, 1) := by decide +kernel
theorem dX10_goes_91 : decode cX10_goes 91 = .ok (.if_icmp .le 8, 3) := by decide +kernel
theorem dX10_goes_94 : decode cX10_goes 94 = .ok (.aload_n 1, 1) := by decide +kernel
theorem dX10_goes_95 : decode cX10_goes 95 = .ok (.iconst 0, 1) := by decide +kernel
theorem dX10_goes_96 : decode cX10_goes 96 = .ok (.invokestatic 330, 3) := by decide +kernel
theorem dX10_goes_99 : decode cX10_goes 99 = .ok (.iconst 0, 1) := by decide +kernel
theorem dX10_goes_100 : decode cX10_goes 100 = .ok (.istore_n 3, 1) := by decide +kernel
theorem dX10_goes_101 : decode cX10_goes 101 = .ok (.iload_n 3, 1) := by decide +kernel
theorem dX10_goes_102 : decode cX10_goes 102 = .ok (.aload_n 0, 1) := by decide +kernel
theorem dX10_goes_103 : decode cX10_goes 103 = .ok (.getfield 23, 3) := by decide +kernel
theorem dX10_goes_106 : decode cX10_goes 106 = .ok (.iconst 1, 1) := by decide +kernel
theorem dX10_goes_107 : decode cX10_goes 107 = .ok (.iaload, 1) := by decide +kernel
theorem dX10_goes_108 : decode cX10_goes 108 = .ok (.if_icmp .ge 31, 3) := by decide +kernel
theorem dX10_goes_111 : decode cX10_goes 111 = .ok (.aload_n 1, 1) := by decide +kernel
theorem dX10_goes_112 : decode cX10_goes 112 = .ok (.bipush 16, 2) := by decide +kernel
theorem dX10_goes_114 : decode cX10_goes 114 = .ok (.iload_n 3, 1) := by decide +kernel
theorem dX10_goes_115 : decode cX10_goes 115 = .ok (.iadd, 1) := by decide +kernel
theorem dX10_goes_116 : decode cX10_goes 116 = .ok (.dup2, 1) := by decide +kernel
theorem dX10_goes_117 : decode cX10_goes 117 = .ok (.iaload, 1) := by decide +kernel
theorem dX10_goes_118 : decode cX10_goes 118 = .ok (.aload_n 1, 1) := by decide +kernel
theorem dX10_goes_119 : decode cX10_goes 119 = .ok (.iconst 0, 1) := by decide +kernel
theorem dX10_goes_120 : decode cX10_goes 120 = .ok (.iload_n 3, 1) := by decide +kernel
theorem dX10_goes_121 : decode cX10_goes 121 = .ok (.iadd, 1) := by decide +kernel
theorem dX10_goes_122 : decode cX10_goes 122 = .ok (.iaload, 1) := by decide +kernel
theorem dX10_goes_123 : decode cX10_goes 123 = .ok (.ifCond .ne 7, 3) := by decide +kernel
theorem dX10_goes_126 : decode cX10_goes 126 = .ok (.iconst 1, 1) := by decide +kernel
theorem dX10_goes_127 : decode cX10_goes 127 = .ok (.goto 4, 3) := by decide +kernel
theorem dX10_goes_130 : decode cX10_goes 130 = .ok (.iconst 0, 1) := by decide +kernel
theorem dX10_goes_131 : decode cX10_goes 131 = .ok (.iadd, 1) := by decide +kernel
theorem dX10_goes_132 : decode cX10_goes 132 = .ok (.iastore, 1) := by decide +kernel
theorem dX10_goes_133 : decode cX10_goes 133 = .ok (.iinc 3 1, 3) := by decide +kernel
theorem dX10_goes_136 : decode cX10_goes 136 = .ok (.goto (-35), 3) := by decide +kernel
theorem dX10_goes_139 : decode cX10_goes 139 = .ok (.aload_n 1, 1) := by decide +kernel
theorem dX10_goes_140 : decode cX10_goes 140 = .ok (.bipush 99, 2) := by decide +kernel
theorem dX10_goes_142 : decode cX10_goes 142 = .ok (.iaload, 1) := by decide +kernel
theorem dX10_goes_143 : decode cX10_goes 143 = .ok (.sipush 200, 3) := by decide +kernel
theorem dX10_goes_146 : decode cX10_goes 146 = .ok (.if_icmp .gt 13, 3) := by decide +kernel
theorem dX10_goes_149 : decode cX10_goes 149 = .ok (.aload_n 1, 1) := by decide +kernel
theorem dX10_goes_150 : decode cX10_goes 150 = .ok (.bipush 104, 2) := by decide +kernel
theorem dX10_goes_152 : decode cX10_goes 152 = .ok (.aload_n 1, 1) := by decide +kernel
theorem dX10_goes_153 : decode cX10_goes 153 = .ok (.bipush 99, 2) := by decide +kernel
theorem dX10_goes_155 : decode cX10_goes 155 = .ok (.iaload, 1) := by decide +kernel
theorem dX10_goes_156 : decode cX10_goes 156 = .ok (.iadd, 1) := by decide +kernel
theorem dX10_goes_157 : decode cX10_goes 157 = .ok (.iload_n 2, 1) := by decide +kernel
theorem dX10_goes_158 : decode cX10_goes 158 = .ok (.iastore, 1) := by decide +kernel
theorem dX10_goes_159 : decode cX10_goes 159 = .ok (.aload_n 0, 1) := by decide +kernel
theorem dX10_goes_160 : decode cX10_goes 160 = .ok (.iload_n 2, 1) := by decide +kernel
theorem dX10_goes_161 : decode cX10_goes 161 = .ok (.putfield 356, 3) := by decide +kernel
theorem dX10_goes_164 : decode cX10_goes 164 = .ok (.aload_n 1, 1) := by decide +kernel
theorem dX10_goes_165 : decode cX10_goes 165 = .ok (.bipush 99, 2) := by decide +kernel
theorem dX10_goes_167 : decode cX10_goes 167 = .ok (.dup2, 1) := by decide +kernel
theorem dX10_goes_168 : decode cX10_goes 168 = .ok (.iaload, 1) := by decide +kernel
theorem dX10_goes_169 : decode cX10_goes 169 = .ok (.iconst 1, 1) := by decide +kernel
theorem dX10_goes_170 : decode cX10_goes 170 = .ok (.iadd, 1) := by decide +kernel
theorem dX10_goes_171 : decode cX10_goes 171 = .ok (.iastore, 1) := by decide +kernel
theorem dX10_goes_172 : decode cX10_goes 172 = .ok (.return_, 1) := by decide +kernel
def fX10_goes_139  (x0 : Nat) (x1 : Nat) (x2 : Int32) (v : zV) : Option zV :=
  zix (99 : Int32) (zlen x1) <|
  if (200 : Int32) < (v x1 ((99 : Int32)).toNatClampNeg) then
    zlet (zup v x0 50 x2) fun v_1 =>
    zix (99 : Int32) (zlen x1) <|
    zix (99 : Int32) (zlen x1) <|
    zlet (zup v_1 x1 ((99 : Int32)).toNatClampNeg ((v_1 x1 ((99 : Int32)).toNatClampNeg) + (1 : Int32))) fun v_2 =>
    some v_2
  else
    zix (99 : Int32) (zlen x1) <|
    zix ((104 : Int32) + (v x1 ((99 : Int32)).toNatClampNeg)) (zlen x1) <|
    zlet (zup v x1 ((104 : Int32) + (v x1 ((99 : Int32)).toNatClampNeg)).toNatClampNeg x2) fun v_3 =>
    zlet (zup v_3 x0 50 x2) fun v_4 =>
    zix (99 : Int32) (zlen x1) <|
    zix (99 : Int32) (zlen x1) <|
    zlet (zup v_4 x1 ((99 : Int32)).toNatClampNeg ((v_4 x1 ((99 : Int32)).toNatClampNeg) + (1 : Int32))) fun v_5 =>
    some v_5
set_option maxRecDepth 4000 in
theorem jX10_goes_139 (x : zCx) (G : zG) (F : zF x G cX10_goes 4 RX10 6 192) (hr : x.2.2.2.2.2.2.2.2.1.sig.returnType = (Option.none : Option FieldType)) (hk : x.2.2.2.2.2.2.2.2.1.locks = false) (w : zV)  : ∀ (x0 : Nat) (t0 : zty G x0 1 10) (x1 : Nat) (t1 : zty G x1 2 0) (x2 : Int32) (v : zV), fX10_goes_139 x0 x1 x2 v = some w → zJ x G 4 (zQ x G none w 0 0) 0 0 139 [(0, zr G x0), (1, zr G x1), (2, .int x2)] [] v := by
  intro x0 t0 x1 t1 x2 v h
  unfold fX10_goes_139 at h
  refine z_aload_n F dX10_goes_139 rfl 1 rfl ?_
  refine z_bipush (y := (99 : Int32)) F dX10_goes_140 rfl ?_
  obtain ⟨hi142, h⟩ := zix_ex h
  refine z_iald F t1 dX10_goes_142 hi142 ?_
  refine z_sipush (y := (200 : Int32)) F dX10_goes_143 rfl ?_
  refine z_icmp_gt F 159 dX10_goes_146 rfl (fun hc => ?_) (fun hc => ?_)
  · replace h := zif_t hc h
    refine z_aload_n F dX10_goes_159 rfl 0 rfl ?_
    refine z_iload_n F dX10_goes_160 rfl 2 rfl ?_
    refine zp_10_50 F t0 wF_X10_356 dX10_goes_161 ?_
    obtain ⟨v_1, ev_1, h⟩ := zlet_ex h
    refine z_heap ev_1 ?_
    refine z_aload_n F dX10_goes_164 rfl 1 rfl ?_
    refine z_bipush (y := (99 : Int32)) F dX10_goes_165 rfl ?_
    refine z_dup2 F dX10_goes_167 rfl rfl ?_
    obtain ⟨hi168, h⟩ := zix_ex h
    refine z_iald F t1 dX10_goes_168 hi168 ?_
    refine z_iconst (y := (1 : Int32)) F dX10_goes_169 rfl ?_
    refine z_iadd F dX10_goes_170 ?_
    obtain ⟨hi171, h⟩ := zix_ex h
    refine z_iast F t1 dX10_goes_171 hi171 ?_
    obtain ⟨v_2, ev_2, h⟩ := zlet_ex h
    refine z_heap ev_2 ?_
    cases h
    exact z_retv F hr hk dX10_goes_172
  · replace h := zif_f hc h
    refine z_aload_n F dX10_goes_149 rfl 1 rfl ?_
    refine z_bipush (y := (104 : Int32)) F dX10_goes_150 rfl ?_
    refine z_aload_n F dX10_goes_152 rfl 1 rfl ?_
    refine z_bipush (y := (99 : Int32)) F dX10_goes_153 rfl ?_
    obtain ⟨hi155, h⟩ := zix_ex h
    refine z_iald F t1 dX10_goes_155 hi155 ?_
    refine z_iadd F dX10_goes_156 ?_
    refine z_iload_n F dX10_goes_157 rfl 2 rfl ?_
    obtain ⟨hi158, h⟩ := zix_ex h
    refine z_iast F t1 dX10_goes_158 hi158 ?_
    obtain ⟨v_3, ev_3, h⟩ := zlet_ex h
    refine z_heap ev_3 ?_
    refine z_aload_n F dX10_goes_159 rfl 0 rfl ?_
    refine z_iload_n F dX10_goes_160 rfl 2 rfl ?_
    refine zp_10_50 F t0 wF_X10_356 dX10_goes_161 ?_
    obtain ⟨v_4, ev_4, h⟩ := zlet_ex h
    refine z_heap ev_4 ?_
    refine z_aload_n F dX10_goes_164 rfl 1 rfl ?_
    refine z_bipush (y := (99 : Int32)) F dX10_goes_165 rfl ?_
    refine z_dup2 F dX10_goes_167 rfl rfl ?_
    obtain ⟨hi168, h⟩ := zix_ex h
    refine z_iald F t1 dX10_goes_168 hi168 ?_
    refine z_iconst (y := (1 : Int32)) F dX10_goes_169 rfl ?_
    refine z_iadd F dX10_goes_170 ?_
    obtain ⟨hi171, h⟩ := zix_ex h
    refine z_iast F t1 dX10_goes_171 hi171 ?_
    obtain ⟨v_5, ev_5, h⟩ := zlet_ex h
    refine z_heap ev_5 ?_
    cases h
    exact z_retv F hr hk dX10_goes_172

def fX10_goes_101  : Nat → Nat → Nat → Int32 → Int32 → zV → Option zV
  | 0 => fun _ _ _ _ _ => none
  | n + 1 => fun x0 x1 x2 x3 v =>
    zix (1 : Int32) (zlen (zrf x0 12)) <|
    if (v (zrf x0 12) ((1 : Int32)).toNatClampNeg) ≤ x3 then
      fX10_goes_139  x0 x1 x2 v
    else
      zix ((16 : Int32) + x3) (zlen x1) <|
      zix ((0 : Int32) + x3) (zlen x1) <|
      if (v x1 ((0 : Int32) + x3).toNatClampNeg) = (0 : Int32) then
        zix ((16 : Int32) + x3) (zlen x1) <|
        zlet (zup v x1 ((16 : Int32) + x3).toNatClampNeg ((v x1 ((16 : Int32) + x3).toNatClampNeg) + (1 : Int32))) fun v_2 =>
        (fX10_goes_101 n) x0 x1 x2 (x3 + (1 : Int32)) v_2
      else
        zix ((16 : Int32) + x3) (zlen x1) <|
        zlet (zup v x1 ((16 : Int32) + x3).toNatClampNeg ((v x1 ((16 : Int32) + x3).toNatClampNeg) + (0 : Int32))) fun v_1 =>
        (fX10_goes_101 n) x0 x1 x2 (x3 + (1 : Int32)) v_1
set_option maxRecDepth 4000 in
theorem jX10_goes_101 (x : zCx) (G : zG) (F : zF x G cX10_goes 4 RX10 6 192) (hr : x.2.2.2.2.2.2.2.2.1.sig.returnType = (Option.none : Option FieldType)) (hk : x.2.2.2.2.2.2.2.2.1.locks = false) (w : zV)  : ∀ (n : Nat) (x0 : Nat) (t0 : zty G x0 1 10) (x1 : Nat) (t1 : zty G x1 2 0) (x2 : Int32) (x3 : Int32) (v : zV), fX10_goes_101 n x0 x1 x2 x3 v = some w → zJ x G 4 (zQ x G none w 0 0) 0 0 101 [(0, zr G x0), (1, zr G x1), (2, .int x2), (3, .int x3)] [] v := by
  intro n
  induction n with
  | zero => intro x0 t0 x1 t1 x2 x3 v h; exact absurd h (by intro q; cases q)
  | succ n ih =>
    intro x0 t0 x1 t1 x2 x3 v h
    rw [fX10_goes_101] at h
    dsimp only at h
    refine z_iload_n F dX10_goes_101 rfl 3 rfl ?_
    refine z_aload_n F dX10_goes_102 rfl 0 rfl ?_
    refine zg_10_12 F t0 wF_X10_23 dX10_goes_103 ?_
    refine z_iconst (y := (1 : Int32)) F dX10_goes_106 rfl ?_
    obtain ⟨hi107, h⟩ := zix_ex h
    refine z_iald F (zt_f tc_10_12 t0) dX10_goes_107 hi107 ?_
    refine z_icmp_ge F 139 dX10_goes_108 rfl (fun hc => ?_) (fun hc => ?_)
    · replace h := zif_t hc h
      refine z_ls [(0, zr G x0), (1, zr G x1), (2, .int x2)] [0, 1, 2] rfl ?_
      exact jX10_goes_139 x G F hr hk w   x0 t0 x1 t1 x2 v h
    · replace h := zif_f hc h
      refine z_aload_n F dX10_goes_111 rfl 1 rfl ?_
      refine z_bipush (y := (16 : Int32)) F dX10_goes_112 rfl ?_
      refine z_iload_n F dX10_goes_114 rfl 3 rfl ?_
      refine z_iadd F dX10_goes_115 ?_
      refine z_dup2 F dX10_goes_116 rfl rfl ?_
      obtain ⟨hi117, h⟩ := zix_ex h
      refine z_iald F t1 dX10_goes_117 hi117 ?_
      refine z_aload_n F dX10_goes_118 rfl 1 rfl ?_
      refine z_iconst (y := (0 : Int32)) F dX10_goes_119 rfl ?_
      refine z_iload_n F dX10_goes_120 rfl 3 rfl ?_
      refine z_iadd F dX10_goes_121 ?_
      obtain ⟨hi122, h⟩ := zix_ex h
      refine z_iald F t1 dX10_goes_122 hi122 ?_
      refine z_if_ne F 130 dX10_goes_123 rfl (fun hc => ?_) (fun hc => ?_)
      · replace h := zif_f hc h
        refine z_iconst (y := (0 : Int32)) F dX10_goes_130 rfl ?_
        refine z_iadd F dX10_goes_131 ?_
        obtain ⟨hi132, h⟩ := zix_ex h
        refine z_iast F t1 dX10_goes_132 hi132 ?_
        obtain ⟨v_1, ev_1, h⟩ := zlet_ex h
        refine z_heap ev_1 ?_
        refine z_iinc F [(3, .int (x3 + (1 : Int32))), (0, zr G x0), (1, zr G x1), (2, .int x2)] dX10_goes_133 3 rfl rfl (Nat.le_of_ble_eq_true rfl) rfl ?_
        refine z_goto F 101 dX10_goes_136 rfl ?_
        refine z_ls [(0, zr G x0), (1, zr G x1), (2, .int x2), (3, .int (x3 + (1 : Int32)))] [1, 2, 3, 0] rfl ?_
        exact ih x0 t0 x1 t1 x2 (x3 + (1 : Int32)) v_1 h
      · replace h := zif_t hc h
        refine z_iconst (y := (1 : Int32)) F dX10_goes_126 rfl ?_
        refine z_goto F 131 dX10_goes_127 rfl ?_
        refine z_iadd F dX10_goes_131 ?_
        obtain ⟨hi132, h⟩ := zix_ex h
        refine z_iast F t1 dX10_goes_132 hi132 ?_
        obtain ⟨v_2, ev_2, h⟩ := zlet_ex h
        refine z_heap ev_2 ?_
        refine z_iinc F [(3, .int (x3 + (1 : Int32))), (0, zr G x0), (1, zr G x1), (2, .int x2)] dX10_goes_133 3 rfl rfl (Nat.le_of_ble_eq_true rfl) rfl ?_
        refine z_goto F 101 dX10_goes_136 rfl ?_
        refine z_ls [(0, zr G x0), (1, zr G x1), (2, .int x2), (3, .int (x3 + (1 : Int32)))] [1, 2, 3, 0] rfl ?_
        exact ih x0 t0 x1 t1 x2 (x3 + (1 : Int32)) v_2 h

def fX10_goes_81  (x0 : Nat) (x1 : Nat) (x2 : Int32) (v : zV) : Option zV :=
  zix (61 : Int32) (zlen x1) <|
  zix (2 : Int32) (zlen (zrf x0 12)) <|
  if (v x1 ((61 : Int32)).toNatClampNeg) ≤ (v (zrf x0 12) ((2 : Int32)).toNatClampNeg) then
    fX10_goes_101  zFU x0 x1 x2 (0 : Int32) v
  else
    zbindv (fX10_leaves x1 (0 : Int32) v) fun v_1 =>
    fX10_goes_101  zFU x0 x1 x2 (0 : Int32) v_1
set_option maxRecDepth 4000 in
theorem jX10_goes_81 (x : zCx) (G : zG) (F : zF x G cX10_goes 4 RX10 6 192) (hr : x.2.2.2.2.2.2.2.2.1.sig.returnType = (Option.none : Option FieldType)) (hk : x.2.2.2.2.2.2.2.2.1.locks = false) (w : zV)  : ∀ (x0 : Nat) (t0 : zty G x0 1 10) (x1 : Nat) (t1 : zty G x1 2 0) (x2 : Int32) (v : zV), fX10_goes_81 x0 x1 x2 v = some w → zJ x G 4 (zQ x G none w 0 0) 0 0 81 [(0, zr G x0), (1, zr G x1), (2, .int x2)] [] v := by
  intro x0 t0 x1 t1 x2 v h
  unfold fX10_goes_81 at h
  refine z_aload_n F dX10_goes_81 rfl 1 rfl ?_
  refine z_bipush (y := (61 : Int32)) F dX10_goes_82 rfl ?_
  obtain ⟨hi84, h⟩ := zix_ex h
  refine z_iald F t1 dX10_goes_84 hi84 ?_
  refine z_aload_n F dX10_goes_85 rfl 0 rfl ?_
  refine zg_10_12 F t0 wF_X10_23 dX10_goes_86 ?_
  refine z_iconst (y := (2 : Int32)) F dX10_goes_89 rfl ?_
  obtain ⟨hi90, h⟩ := zix_ex h
  refine z_iald F (zt_f tc_10_12 t0) dX10_goes_90 hi90 ?_
  refine z_icmp_le F 99 dX10_goes_91 rfl (fun hc => ?_) (fun hc => ?_)
  · replace h := zif_t hc h
    refine z_iconst (y := (0 : Int32)) F dX10_goes_99 rfl ?_
    refine z_istore_n F [(3, .int (0 : Int32)), (0, zr G x0), (1, zr G x1), (2, .int x2)] dX10_goes_100 rfl (Nat.le_of_ble_eq_true rfl) rfl ?_
    refine z_ls [(0, zr G x0), (1, zr G x1), (2, .int x2), (3, .int (0 : Int32))] [1, 2, 3, 0] rfl ?_
    exact jX10_goes_101 x G F hr hk w   zFU x0 t0 x1 t1 x2 (0 : Int32) v h
  · replace h := zif_f hc h
    refine z_aload_n F dX10_goes_94 rfl 1 rfl ?_
    refine z_iconst (y := (0 : Int32)) F dX10_goes_95 rfl ?_
    obtain ⟨v_1, hq96, h⟩ := zbindv_ex h
    refine z_callSv F [zr G x1, .int (0 : Int32)] [] (kX10_leaves x.2.1 G x1 t1 (0 : Int32) v v_1 hq96) mI_X10_leaves wM_X10_330 ms_X10_leaves dX10_goes_96 rfl ⟨Nat.le_of_ble_eq_true rfl, Nat.le_of_ble_eq_true rfl⟩ rfl (Nat.le_of_ble_eq_true rfl) ⟨Nat.zero_le _, Nat.zero_le _⟩ ?_
    refine z_iconst (y := (0 : Int32)) F dX10_goes_99 rfl ?_
    refine z_istore_n F [(3, .int (0 : Int32)), (0, zr G x0), (1, zr G x1), (2, .int x2)] dX10_goes_100 rfl (Nat.le_of_ble_eq_true rfl) rfl ?_
    refine z_ls [(0, zr G x0), (1, zr G x1), (2, .int x2), (3, .int (0 : Int32))] [1, 2, 3, 0] rfl ?_
    exact jX10_goes_101 x G F hr hk w   zFU x0 t0 x1 t1 x2 (0 : Int32) v_1 h

def fX10_goes_17  (x0 : Nat) (x1 : Nat) (v : zV) : Option zV :=
  zbind (fX10_chosen x0 x1 v) fun r_2 v_1 =>
  if r_2 = (-1 : Int32) then
    zix (100 : Int32) (zlen x1) <|
    zix (100 : Int32) (zlen x1) <|
    zlet (zup v_1 x1 ((100 : Int32)).toNatClampNeg ((v_1 x1 ((100 : Int32)).toNatClampNeg) + (1 : Int32))) fun v_8 =>
    fX10_goes_81  x0 x1 r_2 v_8
  else
    zix ((0 : Int32) + r_2) (zlen x1) <|
    zlet (zup v_1 x1 ((0 : Int32) + r_2).toNatClampNeg (1 : Int32)) fun v_3 =>
    zix (99 : Int32) (zlen x1) <|
    zix ((32 : Int32) + r_2) (zlen x1) <|
    zlet (zup v_3 x1 ((32 : Int32) + r_2).toNatClampNeg (v_3 x1 ((99 : Int32)).toNatClampNeg)) fun v_4 =>
    zix (61 : Int32) (zlen x1) <|
    zix ((48 : Int32) + (v_4 x1 ((61 : Int32)).toNatClampNeg)) (zlen x1) <|
    zlet (zup v_4 x1 ((48 : Int32) + (v_4 x1 ((61 : Int32)).toNatClampNeg)).toNatClampNeg r_2) fun v_5 =>
    zix (61 : Int32) (zlen x1) <|
    zix (61 : Int32) (zlen x1) <|
    zlet (zup v_5 x1 ((61 : Int32)).toNatClampNeg ((v_5 x1 ((61 : Int32)).toNatClampNeg) + (1 : Int32))) fun v_6 =>
    zix (101 : Int32) (zlen x1) <|
    zix (101 : Int32) (zlen x1) <|
    zlet (zup v_6 x1 ((101 : Int32)).toNatClampNeg ((v_6 x1 ((101 : Int32)).toNatClampNeg) + (1 : Int32))) fun v_7 =>
    fX10_goes_81  x0 x1 r_2 v_7
set_option maxRecDepth 4000 in
theorem jX10_goes_17 (x : zCx) (G : zG) (F : zF x G cX10_goes 4 RX10 6 192) (hr : x.2.2.2.2.2.2.2.2.1.sig.returnType = (Option.none : Option FieldType)) (hk : x.2.2.2.2.2.2.2.2.1.locks = false) (w : zV)  : ∀ (x0 : Nat) (t0 : zty G x0 1 10) (x1 : Nat) (t1 : zty G x1 2 0) (v : zV), fX10_goes_17 x0 x1 v = some w → zJ x G 4 (zQ x G none w 0 0) 0 0 17 [(0, zr G x0), (1, zr G x1)] [] v := by
  intro x0 t0 x1 t1 v h
  unfold fX10_goes_17 at h
  refine z_aload_n F dX10_goes_17 rfl 0 rfl ?_
  refine z_aload_n F dX10_goes_18 rfl 1 rfl ?_
  obtain ⟨r_2, v_1, hq19, h⟩ := zbind_ex h
  refine z_callVi F [zr G x1] [] (kX10_chosen x.2.1 G x0 t0 x1 t1 v r_2 v_1 hq19) mI_X10_chosen (c := 10) rfl t0 wM_X10_353 mi_X10_chosen sl_X10_chosen dX10_goes_19 rfl ⟨Nat.le_of_ble_eq_true rfl, Nat.le_of_ble_eq_true rfl⟩ rfl (Nat.le_of_ble_eq_true rfl) ⟨Nat.zero_le _, Nat.zero_le _⟩ ?_
  refine z_istore_n F [(2, .int r_2), (0, zr G x0), (1, zr G x1)] dX10_goes_22 rfl (Nat.le_of_ble_eq_true rfl) rfl ?_
  refine z_iload_n F dX10_goes_23 rfl 0 rfl ?_
  refine z_iconst (y := (-1 : Int32)) F dX10_goes_24 rfl ?_
  refine z_icmp_ne F 39 dX10_goes_25 rfl (fun hc => ?_) (fun hc => ?_)
  · replace h := zif_f hc h
    refine z_aload_n F dX10_goes_39 rfl 2 rfl ?_
    refine z_iconst (y := (0 : Int32)) F dX10_goes_40 rfl ?_
    refine z_iload_n F dX10_goes_41 rfl 0 rfl ?_
    refine z_iadd F dX10_goes_42 ?_
    refine z_iconst (y := (1 : Int32)) F dX10_goes_43 rfl ?_
    obtain ⟨hi44, h⟩ := zix_ex h
    refine z_iast F t1 dX10_goes_44 hi44 ?_
    obtain ⟨v_3, ev_3, h⟩ := zlet_ex h
    refine z_heap ev_3 ?_
    refine z_aload_n F dX10_goes_45 rfl 2 rfl ?_
    refine z_bipush (y := (32 : Int32)) F dX10_goes_46 rfl ?_
    refine z_iload_n F dX10_goes_48 rfl 0 rfl ?_
    refine z_iadd F dX10_goes_49 ?_
    refine z_aload_n F dX10_goes_50 rfl 2 rfl ?_
    refine z_bipush (y := (99 : Int32)) F dX10_goes_51 rfl ?_
    obtain ⟨hi53, h⟩ := zix_ex h
    refine z_iald F t1 dX10_goes_53 hi53 ?_
    obtain ⟨hi54, h⟩ := zix_ex h
    refine z_iast F t1 dX10_goes_54 hi54 ?_
    obtain ⟨v_4, ev_4, h⟩ := zlet_ex h
    refine z_heap ev_4 ?_
    refine z_aload_n F dX10_goes_55 rfl 2 rfl ?_
    refine z_bipush (y := (48 : Int32)) F dX10_goes_56 rfl ?_
    refine z_aload_n F dX10_goes_58 rfl 2 rfl ?_
    refine z_bipush (y := (61 : Int32)) F dX10_goes_59 rfl ?_
    obtain ⟨hi61, h⟩ := zix_ex h
    refine z_iald F t1 dX10_goes_61 hi61 ?_
    refine z_iadd F dX10_goes_62 ?_
    refine z_iload_n F dX10_goes_63 rfl 0 rfl ?_
    obtain ⟨hi64, h⟩ := zix_ex h
    refine z_iast F t1 dX10_goes_64 hi64 ?_
    obtain ⟨v_5, ev_5, h⟩ := zlet_ex h
    refine z_heap ev_5 ?_
    refine z_aload_n F dX10_goes_65 rfl 2 rfl ?_
    refine z_bipush (y := (61 : Int32)) F dX10_goes_66 rfl ?_
    refine z_dup2 F dX10_goes_68 rfl rfl ?_
    obtain ⟨hi69, h⟩ := zix_ex h
    refine z_iald F t1 dX10_goes_69 hi69 ?_
    refine z_iconst (y := (1 : Int32)) F dX10_goes_70 rfl ?_
    refine z_iadd F dX10_goes_71 ?_
    obtain ⟨hi72, h⟩ := zix_ex h
    refine z_iast F t1 dX10_goes_72 hi72 ?_
    obtain ⟨v_6, ev_6, h⟩ := zlet_ex h
    refine z_heap ev_6 ?_
    refine z_aload_n F dX10_goes_73 rfl 2 rfl ?_
    refine z_bipush (y := (101 : Int32)) F dX10_goes_74 rfl ?_
    refine z_dup2 F dX10_goes_76 rfl rfl ?_
    obtain ⟨hi77, h⟩ := zix_ex h
    refine z_iald F t1 dX10_goes_77 hi77 ?_
    refine z_iconst (y := (1 : Int32)) F dX10_goes_78 rfl ?_
    refine z_iadd F dX10_goes_79 ?_
    obtain ⟨hi80, h⟩ := zix_ex h
    refine z_iast F t1 dX10_goes_80 hi80 ?_
    obtain ⟨v_7, ev_7, h⟩ := zlet_ex h
    refine z_heap ev_7 ?_
    refine z_ls [(0, zr G x0), (1, zr G x1), (2, .int r_2)] [1, 2, 0] rfl ?_
    exact jX10_goes_81 x G F hr hk w   x0 t0 x1 t1 r_2 v_7 h
  · replace h := zif_t hc h
    refine z_aload_n F dX10_goes_28 rfl 2 rfl ?_
    refine z_bipush (y := (100 : Int32)) F dX10_goes_29 rfl ?_
    refine z_dup2 F dX10_goes_31 rfl rfl ?_
    obtain ⟨hi32, h⟩ := zix_ex h
    refine z_iald F t1 dX10_goes_32 hi32 ?_
    refine z_iconst (y := (1 : Int32)) F dX10_goes_33 rfl ?_
    refine z_iadd F dX10_goes_34 ?_
    obtain ⟨hi35, h⟩ := zix_ex h
    refine z_iast F t1 dX10_goes_35 hi35 ?_
    obtain ⟨v_8, ev_8, h⟩ := zlet_ex h
    refine z_heap ev_8 ?_
    refine z_goto F 81 dX10_goes_36 rfl ?_
    refine z_ls [(0, zr G x0), (1, zr G x1), (2, .int r_2)] [1, 2, 0] rfl ?_
    exact jX10_goes_81 x G F hr hk w   x0 t0 x1 t1 r_2 v_8 h

def fX10_goes (x0 : Nat) (x1 : Nat) (v : zV) : Option zV :=
  zbindv (fX10_deathsOf x0 x1 v) fun v_1 =>
  if (v_1 x0 47) ≤ (0 : Int32) then
    fX10_goes_17  x0 x1 v_1
  else
    zbindv (fX10_fatesOf x0 x1 v_1) fun v_2 =>
    fX10_goes_17  x0 x1 v_2
set_option maxRecDepth 4000 in
theorem kX10_goes (l : Launch) (G : zG) (x0 : Nat) (t0 : zty G x0 1 10) (x1 : Nat) (t1 : zty G x1 2 0) (v : zV) (w : zV) (h : fX10_goes x0 x1 v = some w) : zMet l yX10_goes cX10_goes 4 (Option.none : Option FieldType) 6 192 0 0 [zr G x0, zr G x1] G v none w := by
  refine zM_of (own := RX10) (by decide) rfl (Nat.le_of_ble_eq_true rfl) (fun x hl F hr hk hcs => ?_)
  subst hl
  refine z_ls [(0, zr G x0), (1, zr G x1)] [0, 1] rfl ?_
  unfold fX10_goes at h
  refine z_aload_n F dX10_goes_0 rfl 0 rfl ?_
  refine z_aload_n F dX10_goes_1 rfl 1 rfl ?_
  obtain ⟨v_1, hq2, h⟩ := zbindv_ex h
  refine z_callVv F [zr G x1] [] (kX10_deathsOf x.2.1 G x0 t0 x1 t1 v v_1 hq2) mI_X10_deathsOf (c := 10) rfl t0 wM_X10_346 mi_X10_deathsOf sl_X10_deathsOf dX10_goes_2 rfl ⟨Nat.le_of_ble_eq_true rfl, Nat.le_of_ble_eq_true rfl⟩ rfl (Nat.le_of_ble_eq_true rfl) ⟨Nat.zero_le _, Nat.zero_le _⟩ ?_
  refine z_aload_n F dX10_goes_5 rfl 0 rfl ?_
  refine zg_10_47 F t0 wF_X10_343 dX10_goes_6 ?_
  refine z_if_le F 17 dX10_goes_9 rfl (fun hc => ?_) (fun hc => ?_)
  · replace h := zif_t hc h
    refine z_ls [(0, zr G x0), (1, zr G x1)] [0, 1] rfl ?_
    exact jX10_goes_17 x G F hr hk w   x0 t0 x1 t1 v_1 h
  · replace h := zif_f hc h
    refine z_aload_n F dX10_goes_12 rfl 0 rfl ?_
    refine z_aload_n F dX10_goes_13 rfl 1 rfl ?_
    obtain ⟨v_2, hq14, h⟩ := zbindv_ex h
    refine z_callVv F [zr G x1] [] (kX10_fatesOf x.2.1 G x0 t0 x1 t1 v_1 v_2 hq14) mI_X10_fatesOf (c := 10) rfl t0 wM_X10_350 mi_X10_fatesOf sl_X10_fatesOf dX10_goes_14 rfl ⟨Nat.le_of_ble_eq_true rfl, Nat.le_of_ble_eq_true rfl⟩ rfl (Nat.le_of_ble_eq_true rfl) ⟨Nat.zero_le _, Nat.zero_le _⟩ ?_
    refine z_ls [(0, zr G x0), (1, zr G x1)] [0, 1] rfl ?_
    exact jX10_goes_17 x G F hr hk w   x0 t0 x1 t1 v_2 h

theorem dX10_next_0 : decode cX10_next 0 = .ok (.aload_n 0, 1) := by decide +kernel
theorem dX10_next_1 : decode cX10_next 1 = .ok (.iconst 0, 1) := by decide +kernel
theorem dX10_next_2 : decode cX10_next 2 = .ok (.putfield 134, 3) := by decide +kernel
theorem dX10_next_5 : decode cX10_next 5 = .ok (.aload_n 0, 1) := by decide +kernel
theorem dX10_next_6 : decode cX10_next 6 = .ok (.getfield 85, 3) := by decide +kernel
theorem dX10_next_9 : decode cX10_next 9 = .ok (.aload_n 0, 1) := by decide +kernel
theorem dX10_next_10 : decode cX10_next 10 = .ok (.getfield 94, 3) := by decide +kernel
theorem dX10_next_13 : decode cX10_next 13 = .ok (.invokestatic 237, 3) := by decide +kernel
theorem dX10_next_16 : decode cX10_next 16 = .ok (.aload_n 0, 1) := by decide +kernel
theorem dX10_next_17 : decode cX10_next 17 = .ok (.aload_n 0, 1) := by decide +kernel
theorem dX10_next_18 : decode cX10_next 18 = .ok (.getfield 94, 3) := by decide +kernel
theorem dX10_next_21 : decode cX10_next 21 = .ok (.invokevirtual 359, 3) := by decide +kernel
theorem dX10_next_24 : decode cX10_next 24 = .ok (.aload_n 0, 1) := by decide +kernel
theorem dX10_next_25 : decode cX10_next 25 = .ok (.getfield 356, 3) := by decide +kernel
theorem dX10_next_28 : decode cX10_next 28 = .ok (.ireturn, 1) := by decide +kernel
def fX10_next (x0 : Nat) (v : zV) : Option (Int32 × zV) :=
  zlet (zup v x0 0 (0 : Int32)) fun v_1 =>
  zbindv (fX10_copies (zrf x0 35) (zrf x0 38) v_1) fun v_2 =>
  zbindv (fX10_goes x0 (zrf x0 38) v_2) fun v_3 =>
  some (v_3 x0 50, v_3)
set_option maxRecDepth 4000 in
theorem kX10_next (l : Launch) (G : zG) (x0 : Nat) (t0 : zty G x0 1 10) (v : zV) (r : Int32) (w : zV) (h : fX10_next x0 v = some (r, w)) : zMet l yX10_next cX10_next 1 (Option.some FieldType.int) 7 215 0 0 [zr G x0] G v (some (.int r)) w := by
  refine zM_of (own := RX10) (by decide) rfl (Nat.le_of_ble_eq_true rfl) (fun x hl F hr hk hcs => ?_)
  subst hl
  refine z_ls [(0, zr G x0)] [0] rfl ?_
  unfold fX10_next at h
  refine z_aload_n F dX10_next_0 rfl 0 rfl ?_
  refine z_iconst (y := (0 : Int32)) F dX10_next_1 rfl ?_
  refine zp_10_0 F t0 wF_X10_134 dX10_next_2 ?_
  obtain ⟨v_1, ev_1, h⟩ := zlet_ex h
  refine z_heap ev_1 ?_
  refine z_aload_n F dX10_next_5 rfl 0 rfl ?_
  refine zg_10_35 F t0 wF_X10_85 dX10_next_6 ?_
  refine z_aload_n F dX10_next_9 rfl 0 rfl ?_
  refine zg_10_38 F t0 wF_X10_94 dX10_next_10 ?_
  obtain ⟨v_2, hq13, h⟩ := zbindv_ex h
  refine z_callSv F [zr G (zrf x0 35), zr G (zrf x0 38)] [] (kX10_copies x.2.1 G (zrf x0 35) (zt_f tc_10_35 t0) (zrf x0 38) (zt_f tc_10_38 t0) v_1 v_2 hq13) mI_X10_copies wM_X10_237 ms_X10_copies dX10_next_13 rfl ⟨Nat.le_of_ble_eq_true rfl, Nat.le_of_ble_eq_true rfl⟩ rfl (Nat.le_of_ble_eq_true rfl) ⟨Nat.zero_le _, Nat.zero_le _⟩ ?_
  refine z_aload_n F dX10_next_16 rfl 0 rfl ?_
  refine z_aload_n F dX10_next_17 rfl 0 rfl ?_
  refine zg_10_38 F t0 wF_X10_94 dX10_next_18 ?_
  obtain ⟨v_3, hq21, h⟩ := zbindv_ex h
  refine z_callVv F [zr G (zrf x0 38)] [] (kX10_goes x.2.1 G x0 t0 (zrf x0 38) (zt_f tc_10_38 t0) v_2 v_3 hq21) mI_X10_goes (c := 10) rfl t0 wM_X10_359 mi_X10_goes sl_X10_goes dX10_next_21 rfl ⟨Nat.le_of_ble_eq_true rfl, Nat.le_of_ble_eq_true rfl⟩ rfl (Nat.le_of_ble_eq_true rfl) ⟨Nat.zero_le _, Nat.zero_le _⟩ ?_
  refine z_aload_n F dX10_next_24 rfl 0 rfl ?_
  refine zg_10_50 F t0 wF_X10_356 dX10_next_25 ?_
  cases h
  exact z_reti F hr hk dX10_next_28

theorem dX10_years_0 : decode cX10_years 0 = .ok (.aload_n 0, 1) := by decide +kernel
theorem dX10_years_1 : decode cX10_years 1 = .ok (.iconst 0, 1) := by decide +kernel
theorem dX10_years_2 : decode cX10_years 2 = .ok (.putfield 134, 3) := by decide +kernel
theorem dX10_years_5 : decode cX10_years 5 = .ok (.aload_n 0, 1) := by decide +kernel
theorem dX10_years_6 : decode cX10_years 6 = .ok (.iload_n 1, 1) := by decide +kernel
theorem dX10_years_7 : decode cX10_years 7 = .ok (.iconst 1, 1) := by decide +kernel
theorem dX10_years_8 : decode cX10_years 8 = .ok (.bipush 60, 2) := by decide +kernel
theorem dX10_years_10 : decode cX10_years 10 = .ok (.invokestatic 168, 3) := by decide +kernel
theorem dX10_years_13 : decode cX10_years 13 = .ok (.ifCond .ne 7, 3) := by decide +kernel
theorem dX10_years_16 : decode cX10_years 16 = .ok (.iconst 1, 1) := by decide +kernel
theorem dX10_years_17 : decode cX10_years 17 = .ok (.goto 4, 3) := by decide +kernel
theorem dX10_years_20 : decode cX10_years 20 = .ok (.iconst 0, 1) := by decide +kernel
theorem dX10_years_21 : decode cX10_years 21 = .ok (.iconst 1, 1) := by decide +kernel
theorem dX10_years_22 : decode cX10_years 22 = .ok (.iconst 1, 1) := by decide +kernel
theorem dX10_years_23 : decode cX10_years 23 = .ok (.invokevirtual 220, 3) := by decide +kernel
theorem dX10_years_26 : decode cX10_years 26 = .ok (.ifCond .eq 5, 3) := by decide +kernel
theorem dX10_years_29 : decode cX10_years 29 = .ok (.iconst 0, 1) := by decide +kernel
theorem dX10_years_30 : decode cX10_years 30 = .ok (.ireturn, 1) := by decide +kernel
theorem dX10_years_31 : decode cX10_years 31 = .ok (.iconst 0, 1) := by decide +kernel
theorem dX10_years_32 : decode cX10_years 32 = .ok (.istore_n 2, 1) := by decide +kernel
theorem dX10_years_33 : decode cX10_years 33 = .ok (.iload_n 2, 1) := by decide +kernel
theorem dX10_years_34 : decode cX10_years 34 = .ok (.iload_n 1, 1) := by decide +kernel
theorem dX10_years_35 : decode cX10_years 35 = .ok (.if_icmp .ge 40, 3) := by decide +kernel
theorem dX10_years_38 : decode cX10_years 38 = .ok (.aload_n 0, 1) := by decide +kernel
theorem dX10_years_39 : decode cX10_years 39 = .ok (.getfield 85, 3) := by decide +kernel
theorem dX10_years_42 : decode cX10_years 42 = .ok (.bipush 99, 2) := by decide +kernel
theorem dX10_years_44 : decode cX10_years 44 = .ok (.iaload, 1) := by decide +kernel
theorem dX10_years_45 : decode cX10_years 45 = .ok (.sipush 200, 3) := by decide +kernel
theorem dX10_years_48 : decode cX10_years 48 = .ok (.if_icmp .ge 27, 3) := by decide +kernel
theorem dX10_years_51 : decode cX10_years 51 = .ok (.aload_n 0, 1) := by decide +kernel
theorem dX10_years_52 : decode cX10_years 52 = .ok (.aload_n 0, 1) := by decide +kernel
theorem dX10_years_53 : decode cX10_years 53 = .ok (.getfield 85, 3) := by decide +kernel
theorem dX10_years_56 : decode cX10_years 56 = .ok (.invokevirtual 359, 3) := by decide +kernel
theorem dX10_years_59 : decode cX10_years 59 = .ok (.aload_n 0, 1) := by decide +kernel
theorem dX10_years_60 : decode cX10_years 60 = .ok (.dup, 1) := by decide +kernel
theorem dX10_years_61 : decode cX10_years 61 = .ok (.getfield 253, 3) := by decide +kernel
theorem dX10_years_64 : decode cX10_years 64 = .ok (.iconst 1, 1) := by decide +kernel
theorem dX10_years_65 : decode cX10_years 65 = .ok (.iadd, 1) := by decide +kernel
theorem dX10_years_66 : decode cX10_years 66 = .ok (.putfield 253, 3) := by decide +kernel
theorem dX10_years_69 : decode cX10_years 69 = .ok (.iinc 2 1, 3) := by decide +kernel
theorem dX10_years_72 : decode cX10_years 72 = .ok (.goto (-39), 3) := by decide +kernel
theorem dX10_years_75 : decode cX10_years 75 = .ok (.aload_n 0, 1) := by decide +kernel
theorem dX10_years_76 : decode cX10_years 76 = .ok (.getfield 85, 3) := by decide +kernel
theorem dX10_years_79 : decode cX10_years 79 = .ok (.bipush 99, 2) := by decide +kernel
theorem dX10_years_81 : decode cX10_years 81 = .ok (.iaload, 1) := by decide +kernel
theorem dX10_years_82 : decode cX10_years 82 = .ok (.ireturn, 1) := by decide +kernel
def fX10_years_33  : Nat → Nat → Int32 → Int32 → zV → Option (Int32 × zV)
  | 0 => fun _ _ _ _ => none
  | n + 1 => fun x0 x1 x2 v =>
    if x1 ≤ x2 then
      zix (99 : Int32) (zlen (zrf x0 35)) <|
      some (v (zrf x0 35) ((99 : Int32)).toNatClampNeg, v)
    else
      zix (99 : Int32) (zlen (zrf x0 35)) <|
      if (200 : Int32) ≤ (v (zrf x0 35) ((99 : Int32)).toNatClampNeg) then
        zix (99 : Int32) (zlen (zrf x0 35)) <|
        some (v (zrf x0 35) ((99 : Int32)).toNatClampNeg, v)
      else
        zbindv (fX10_goes x0 (zrf x0 35) v) fun v_1 =>
        zlet (zup v_1 x0 41 ((v_1 x0 41) + (1 : Int32))) fun v_2 =>
        (fX10_years_33 n) x0 x1 (x2 + (1 : Int32)) v_2
set_option maxRecDepth 4000 in
theorem jX10_years_33 (x : zCx) (G : zG) (F : zF x G cX10_years 3 RX10 7 215) (hr : x.2.2.2.2.2.2.2.2.1.sig.returnType = (Option.some FieldType.int)) (hk : x.2.2.2.2.2.2.2.2.1.locks = false) (r : Int32) (w : zV)  : ∀ (n : Nat) (x0 : Nat) (t0 : zty G x0 1 10) (x1 : Int32) (x2 : Int32) (v : zV), fX10_years_33 n x0 x1 x2 v = some (r, w) → zJ x G 3 (zQ x G (some (.int r)) w 0 0) 0 0 33 [(0, zr G x0), (1, .int x1), (2, .int x2)] [] v := by
  intro n
  induction n with
  | zero => intro x0 t0 x1 x2 v h; exact absurd h (by intro q; cases q)
  | succ n ih =>
    intro x0 t0 x1 x2 v h
    rw [fX10_years_33] at h
    dsimp only at h
    refine z_iload_n F dX10_years_33 rfl 2 rfl ?_
    refine z_iload_n F dX10_years_34 rfl 1 rfl ?_
    refine z_icmp_ge F 75 dX10_years_35 rfl (fun hc => ?_) (fun hc => ?_)
    · replace h := zif_t hc h
      refine z_aload_n F dX10_years_75 rfl 0 rfl ?_
      refine zg_10_35 F t0 wF_X10_85 dX10_years_76 ?_
      refine z_bipush (y := (99 : Int32)) F dX10_years_79 rfl ?_
      obtain ⟨hi81, h⟩ := zix_ex h
      refine z_iald F (zt_f tc_10_35 t0) dX10_years_81 hi81 ?_
      cases h
      exact z_reti F hr hk dX10_years_82
    · replace h := zif_f hc h
      refine z_aload_n F dX10_years_38 rfl 0 rfl ?_
      refine zg_10_35 F t0 wF_X10_85 dX10_years_39 ?_
      refine z_bipush (y := (99 : Int32)) F dX10_years_42 rfl ?_
      obtain ⟨hi44, h⟩ := zix_ex h
      refine z_iald F (zt_f tc_10_35 t0) dX10_years_44 hi44 ?_
      refine z_sipush (y := (200 : Int32)) F dX10_years_45 rfl ?_
      refine z_icmp_ge F 75 dX10_years_48 rfl (fun hc => ?_) (fun hc => ?_)
      · replace h := zif_t hc h
        refine z_aload_n F dX10_years_75 rfl 0 rfl ?_
        refine zg_10_35 F t0 wF_X10_85 dX10_years_76 ?_
        refine z_bipush (y := (99 : Int32)) F dX10_years_79 rfl ?_
        obtain ⟨hi81, h⟩ := zix_ex h
        refine z_iald F (zt_f tc_10_35 t0) dX10_years_81 hi81 ?_
        cases h
        exact z_reti F hr hk dX10_years_82
      · replace h := zif_f hc h
        refine z_aload_n F dX10_years_51 rfl 0 rfl ?_
        refine z_aload_n F dX10_years_52 rfl 0 rfl ?_
        refine zg_10_35 F t0 wF_X10_85 dX10_years_53 ?_
        obtain ⟨v_1, hq56, h⟩ := zbindv_ex h
        refine z_callVv F [zr G (zrf x0 35)] [] (kX10_goes x.2.1 G x0 t0 (zrf x0 35) (zt_f tc_10_35 t0) v v_1 hq56) mI_X10_goes (c := 10) rfl t0 wM_X10_359 mi_X10_goes sl_X10_goes dX10_years_56 rfl ⟨Nat.le_of_ble_eq_true rfl, Nat.le_of_ble_eq_true rfl⟩ rfl (Nat.le_of_ble_eq_true rfl) ⟨Nat.zero_le _, Nat.zero_le _⟩ ?_
        refine z_aload_n F dX10_years_59 rfl 0 rfl ?_
        refine z_dup F dX10_years_60 rfl ?_
        refine zg_10_41 F t0 wF_X10_253 dX10_years_61 ?_
        refine z_iconst (y := (1 : Int32)) F dX10_years_64 rfl ?_
        refine z_iadd F dX10_years_65 ?_
        refine zp_10_41 F t0 wF_X10_253 dX10_years_66 ?_
        obtain ⟨v_2, ev_2, h⟩ := zlet_ex h
        refine z_heap ev_2 ?_
        refine z_iinc F [(2, .int (x2 + (1 : Int32))), (0, zr G x0), (1, .int x1)] dX10_years_69 2 rfl rfl (Nat.le_of_ble_eq_true rfl) rfl ?_
        refine z_goto F 33 dX10_years_72 rfl ?_
        refine z_ls [(0, zr G x0), (1, .int x1), (2, .int (x2 + (1 : Int32)))] [1, 2, 0] rfl ?_
        exact ih x0 t0 x1 (x2 + (1 : Int32)) v_2 h

def fX10_years (x0 : Nat) (x1 : Int32) (v : zV) : Option (Int32 × zV) :=
  zlet (zup v x0 0 (0 : Int32)) fun v_1 =>
  zbind (fX10_in x1 (1 : Int32) (60 : Int32) v_1) fun r_3 v_2 =>
  if r_3 = (0 : Int32) then
    zbind (fX10_bad x0 (1 : Int32) (1 : Int32) (1 : Int32) v_2) fun r_7 v_6 =>
    if r_7 = (0 : Int32) then
      fX10_years_33  zFU x0 x1 (0 : Int32) v_6
    else
      some ((0 : Int32), v_6)
  else
    zbind (fX10_bad x0 (0 : Int32) (1 : Int32) (1 : Int32) v_2) fun r_5 v_4 =>
    if r_5 = (0 : Int32) then
      fX10_years_33  zFU x0 x1 (0 : Int32) v_4
    else
      some ((0 : Int32), v_4)
set_option maxRecDepth 4000 in
theorem kX10_years (l : Launch) (G : zG) (x0 : Nat) (t0 : zty G x0 1 10) (x1 : Int32) (v : zV) (r : Int32) (w : zV) (h : fX10_years x0 x1 v = some (r, w)) : zMet l yX10_years cX10_years 3 (Option.some FieldType.int) 7 215 0 0 [zr G x0, .int x1] G v (some (.int r)) w := by
  refine zM_of (own := RX10) (by decide) rfl (Nat.le_of_ble_eq_true rfl) (fun x hl F hr hk hcs => ?_)
  subst hl
  refine z_ls [(0, zr G x0), (1, .int x1)] [0, 1] rfl ?_
  unfold fX10_years at h
  refine z_aload_n F dX10_years_0 rfl 0 rfl ?_
  refine z_iconst (y := (0 : Int32)) F dX10_years_1 rfl ?_
  refine zp_10_0 F t0 wF_X10_134 dX10_years_2 ?_
  obtain ⟨v_1, ev_1, h⟩ := zlet_ex h
  refine z_heap ev_1 ?_
  refine z_aload_n F dX10_years_5 rfl 0 rfl ?_
  refine z_iload_n F dX10_years_6 rfl 1 rfl ?_
  refine z_iconst (y := (1 : Int32)) F dX10_years_7 rfl ?_
  refine z_bipush (y := (60 : Int32)) F dX10_years_8 rfl ?_
  obtain ⟨r_3, v_2, hq10, h⟩ := zbind_ex h
  refine z_callSi F [.int x1, .int (1 : Int32), .int (60 : Int32)] [zr G x0] (kX10_in x.2.1 G x1 (1 : Int32) (60 : Int32) v_1 r_3 v_2 hq10) mI_X10_in wM_X10_168 ms_X10_in dX10_years_10 rfl ⟨Nat.le_of_ble_eq_true rfl, Nat.le_of_ble_eq_true rfl⟩ rfl (Nat.le_of_ble_eq_true rfl) ⟨Nat.zero_le _, Nat.zero_le _⟩ ?_
  refine z_if_ne F 20 dX10_years_13 rfl (fun hc => ?_) (fun hc => ?_)
  · replace h := zif_f hc h
    refine z_iconst (y := (0 : Int32)) F dX10_years_20 rfl ?_
    refine z_iconst (y := (1 : Int32)) F dX10_years_21 rfl ?_
    refine z_iconst (y := (1 : Int32)) F dX10_years_22 rfl ?_
    obtain ⟨r_5, v_4, hq23, h⟩ := zbind_ex h
    refine z_callVi F [.int (0 : Int32), .int (1 : Int32), .int (1 : Int32)] [] (kX10_bad x.2.1 G x0 t0 (0 : Int32) (1 : Int32) (1 : Int32) v_2 r_5 v_4 hq23) mI_X10_bad (c := 10) rfl t0 wM_X10_220 mi_X10_bad sl_X10_bad dX10_years_23 rfl ⟨Nat.le_of_ble_eq_true rfl, Nat.le_of_ble_eq_true rfl⟩ rfl (Nat.le_of_ble_eq_true rfl) ⟨Nat.zero_le _, Nat.zero_le _⟩ ?_
    refine z_if_eq F 31 dX10_years_26 rfl (fun hc => ?_) (fun hc => ?_)
    · replace h := zif_t hc h
      refine z_iconst (y := (0 : Int32)) F dX10_years_31 rfl ?_
      refine z_istore_n F [(2, .int (0 : Int32)), (0, zr G x0), (1, .int x1)] dX10_years_32 rfl (Nat.le_of_ble_eq_true rfl) rfl ?_
      refine z_ls [(0, zr G x0), (1, .int x1), (2, .int (0 : Int32))] [1, 2, 0] rfl ?_
      exact jX10_years_33 x G F hr hk r w   zFU x0 t0 x1 (0 : Int32) v_4 h
    · replace h := zif_f hc h
      refine z_iconst (y := (0 : Int32)) F dX10_years_29 rfl ?_
      cases h
      exact z_reti F hr hk dX10_years_30
  · replace h := zif_t hc h
    refine z_iconst (y := (1 : Int32)) F dX10_years_16 rfl ?_
    refine z_goto F 21 dX10_years_17 rfl ?_
    refine z_iconst (y := (1 : Int32)) F dX10_years_21 rfl ?_
    refine z_iconst (y := (1 : Int32)) F dX10_years_22 rfl ?_
    obtain ⟨r_7, v_6, hq23, h⟩ := zbind_ex h
    refine z_callVi F [.int (1 : Int32), .int (1 : Int32), .int (1 : Int32)] [] (kX10_bad x.2.1 G x0 t0 (1 : Int32) (1 : Int32) (1 : Int32) v_2 r_7 v_6 hq23) mI_X10_bad (c := 10) rfl t0 wM_X10_220 mi_X10_bad sl_X10_bad dX10_years_23 rfl ⟨Nat.le_of_ble_eq_true rfl, Nat.le_of_ble_eq_true rfl⟩ rfl (Nat.le_of_ble_eq_true rfl) ⟨Nat.zero_le _, Nat.zero_le _⟩ ?_
    refine z_if_eq F 31 dX10_years_26 rfl (fun hc => ?_) (fun hc => ?_)
    · replace h := zif_t hc h
      refine z_iconst (y := (0 : Int32)) F dX10_years_31 rfl ?_
      refine z_istore_n F [(2, .int (0 : Int32)), (0, zr G x0), (1, .int x1)] dX10_years_32 rfl (Nat.le_of_ble_eq_true rfl) rfl ?_
      refine z_ls [(0, zr G x0), (1, .int x1), (2, .int (0 : Int32))] [1, 2, 0] rfl ?_
      exact jX10_years_33 x G F hr hk r w   zFU x0 t0 x1 (0 : Int32) v_6 h
    · replace h := zif_f hc h
      refine z_iconst (y := (0 : Int32)) F dX10_years_29 rfl ?_
      cases h
      exact z_reti F hr hk dX10_years_30

theorem dX10_undo_0 : decode cX10_undo 0 = .ok (.aload_n 0, 1) := by decide +kernel
theorem dX10_undo_1 : decode cX10_undo 1 = .ok (.iconst 0, 1) := by decide +kernel
theorem dX10_undo_2 : decode cX10_undo 2 = .ok (.putfield 134, 3) := by decide +kernel
theorem dX10_undo_5 : decode cX10_undo 5 = .ok (.aload_n 0, 1) := by decide +kernel
theorem dX10_undo_6 : decode cX10_undo 6 = .ok (.iload_n 1, 1) := by decide +kernel
theorem dX10_undo_7 : decode cX10_undo 7 = .ok (.iconst 1, 1) := by decide +kernel
theorem dX10_undo_8 : decode cX10_undo 8 = .ok (.bipush 60, 2) := by decide +kernel
theorem dX10_undo_10 : decode cX10_undo 10 = .ok (.invokestatic 168, 3) := by decide +kernel
theorem dX10_undo_13 : decode cX10_undo 13 = .ok (.ifCond .ne 7, 3) := by decide +kernel
theorem dX10_undo_16 : decode cX10_undo 16 = .ok (.iconst 1, 1) := by decide +kernel
theorem dX10_undo_17 : decode cX10_undo 17 = .ok (.goto 4, 3) := by decide +kernel
theorem dX10_undo_20 : decode cX10_undo 20 = .ok (.iconst 0, 1) := by decide +kernel
theorem dX10_undo_21 : decode cX10_undo 21 = .ok (.iconst 1, 1) := by decide +kernel
theorem dX10_undo_22 : decode cX10_undo 22 = .ok (.iconst 1, 1) := by decide +kernel
theorem dX10_undo_23 : decode cX10_undo 23 = .ok (.invokevirtual 220, 3) := by decide +kernel
theorem dX10_undo_26 : decode cX10_undo 26 = .ok (.ifCond .eq 5, 3) := by decide +kernel
theorem dX10_undo_29 : decode cX10_undo 29 = .ok (.iconst 0, 1) := by decide +kernel
theorem dX10_undo_30 : decode cX10_undo 30 = .ok (.ireturn, 1) := by decide +kernel
theorem dX10_undo_31 : decode cX10_undo 31 = .ok (.iload_n 1, 1) := by decide +kernel
theorem dX10_undo_32 : decode cX10_undo 32 = .ok (.aload_n 0, 1) := by decide +kernel
theorem dX10_undo_33 : decode cX10_undo 33 = .ok (.getfield 253, 3) := by decide +kernel
theorem dX10_undo_36 : decode cX10_undo 36 = .ok (.invokestatic 284, 3) := by decide +kernel
theorem dX10_undo_39 : decode cX10_undo 39 = .ok (.istore_n 2, 1) := by decide +kernel
theorem dX10_undo_40 : decode cX10_undo 40 = .ok (.iload_n 2, 1) := by decide +kernel
theorem dX10_undo_41 : decode cX10_undo 41 = .ok (.ifCond .ne 5, 3) := by decide +kernel
theorem dX10_undo_44 : decode cX10_undo 44 = .ok (.iconst 0, 1) := by decide +kernel
theorem dX10_undo_45 : decode cX10_undo 45 = .ok (.ireturn, 1) := by decide +kernel
theorem dX10_undo_46 : decode cX10_undo 46 = .ok (.aload_n 0, 1) := by decide +kernel
theorem dX10_undo_47 : decode cX10_undo 47 = .ok (.dup, 1) := by decide +kernel
theorem dX10_undo_48 : decode cX10_undo 48 = .ok (.getfield 253, 3) := by decide +kernel
theorem dX10_undo_51 : decode cX10_undo 51 = .ok (.iload_n 2, 1) := by decide +kernel
theorem dX10_undo_52 : decode cX10_undo 52 = .ok (.isub, 1) := by decide +kernel
theorem dX10_undo_53 : decode cX10_undo 53 = .ok (.putfield 253, 3) := by decide +kernel
theorem dX10_undo_56 : decode cX10_undo 56 = .ok (.aload_n 0, 1) := by decide +kernel
theorem dX10_undo_57 : decode cX10_undo 57 = .ok (.getfield 88, 3) := by decide +kernel
theorem dX10_undo_60 : decode cX10_undo 60 = .ok (.aload_n 0, 1) := by decide +kernel
theorem dX10_undo_61 : decode cX10_undo 61 = .ok (.getfield 85, 3) := by decide +kernel
theorem dX10_undo_64 : decode cX10_undo 64 = .ok (.invokestatic 237, 3) := by decide +kernel
theorem dX10_undo_67 : decode cX10_undo 67 = .ok (.iconst 0, 1) := by decide +kernel
theorem dX10_undo_68 : decode cX10_undo 68 = .ok (.istore_n 3, 1) := by decide +kernel
theorem dX10_undo_69 : decode cX10_undo 69 = .ok (.iload_n 3, 1) := by decide +kernel
theorem dX10_undo_70 : decode cX10_undo 70 = .ok (.aload_n 0, 1) := by decide +kernel
theorem dX10_undo_71 : decode cX10_undo 71 = .ok (.getfield 253, 3) := by decide +kernel
theorem dX10_undo_74 : decode cX10_undo 74 = .ok (.if_icmp .ge 17, 3) := by decide +kernel
theorem dX10_undo_77 : decode cX10_undo 77 = .ok (.aload_n 0, 1) := by decide +kernel
theorem dX10_undo_78 : decode cX10_undo 78 = .ok (.aload_n 0, 1) := by decide +kernel
theorem dX10_undo_79 : decode cX10_undo 79 = .ok (.getfield 85, 3) := by decide +kernel
theorem dX10_undo_82 : decode cX10_undo 82 = .ok (.invokevirtual 359, 3) := by decide +kernel
theorem dX10_undo_85 : decode cX10_undo 85 = .ok (.iinc 3 1, 3) := by decide +kernel
theorem dX10_undo_88 : decode cX10_undo 88 = .ok (.goto (-19), 3) := by decide +kernel
theorem dX10_undo_91 : decode cX10_undo 91 = .ok (.iload_n 2, 1) := by decide +kernel
theorem dX10_undo_92 : decode cX10_undo 92 = .ok (.ireturn, 1) := by decide +kernel
def fX10_undo_69  : Nat → Nat → Int32 → Int32 → zV → Option (Int32 × zV)
  | 0 => fun _ _ _ _ => none
  | n + 1 => fun x0 x2 x3 v =>
    if (v x0 41) ≤ x3 then
      some (x2, v)
    else
      zbindv (fX10_goes x0 (zrf x0 35) v) fun v_1 =>
      (fX10_undo_69 n) x0 x2 (x3 + (1 : Int32)) v_1
set_option maxRecDepth 4000 in
theorem jX10_undo_69 (x : zCx) (G : zG) (F : zF x G cX10_undo 4 RX10 7 215) (hr : x.2.2.2.2.2.2.2.2.1.sig.returnType = (Option.some FieldType.int)) (hk : x.2.2.2.2.2.2.2.2.1.locks = false) (r : Int32) (w : zV)  : ∀ (n : Nat) (x0 : Nat) (t0 : zty G x0 1 10) (x2 : Int32) (x3 : Int32) (v : zV), fX10_undo_69 n x0 x2 x3 v = some (r, w) → zJ x G 4 (zQ x G (some (.int r)) w 0 0) 0 0 69 [(0, zr G x0), (2, .int x2), (3, .int x3)] [] v := by
  intro n
  induction n with
  | zero => intro x0 t0 x2 x3 v h; exact absurd h (by intro q; cases q)
  | succ n ih =>
    intro x0 t0 x2 x3 v h
    rw [fX10_undo_69] at h
    dsimp only at h
    refine z_iload_n F dX10_undo_69 rfl 2 rfl ?_
    refine z_aload_n F dX10_undo_70 rfl 0 rfl ?_
    refine zg_10_41 F t0 wF_X10_253 dX10_undo_71 ?_
    refine z_icmp_ge F 91 dX10_undo_74 rfl (fun hc => ?_) (fun hc => ?_)
    · replace h := zif_t hc h
      refine z_iload_n F dX10_undo_91 rfl 1 rfl ?_
      cases h
      exact z_reti F hr hk dX10_undo_92
    · replace h := zif_f hc h
      refine z_aload_n F dX10_undo_77 rfl 0 rfl ?_
      refine z_aload_n F dX10_undo_78 rfl 0 rfl ?_
      refine zg_10_35 F t0 wF_X10_85 dX10_undo_79 ?_
      obtain ⟨v_1, hq82, h⟩ := zbindv_ex h
      refine z_callVv F [zr G (zrf x0 35)] [] (kX10_goes x.2.1 G x0 t0 (zrf x0 35) (zt_f tc_10_35 t0) v v_1 hq82) mI_X10_goes (c := 10) rfl t0 wM_X10_359 mi_X10_goes sl_X10_goes dX10_undo_82 rfl ⟨Nat.le_of_ble_eq_true rfl, Nat.le_of_ble_eq_true rfl⟩ rfl (Nat.le_of_ble_eq_true rfl) ⟨Nat.zero_le _, Nat.zero_le _⟩ ?_
      refine z_iinc F [(3, .int (x3 + (1 : Int32))), (0, zr G x0), (2, .int x2)] dX10_undo_85 2 rfl rfl (Nat.le_of_ble_eq_true rfl) rfl ?_
      refine z_goto F 69 dX10_undo_88 rfl ?_
      refine z_ls [(0, zr G x0), (2, .int x2), (3, .int (x3 + (1 : Int32)))] [1, 2, 0] rfl ?_
      exact ih x0 t0 x2 (x3 + (1 : Int32)) v_1 h

def fX10_undo_21  (x0 : Nat) (x1 : Int32) (s0 : Nat) (s1 : Int32) (v : zV) : Option (Int32 × zV) :=
  zbind (fX10_bad s0 s1 (1 : Int32) (1 : Int32) v) fun r_2 v_1 =>
  if r_2 = (0 : Int32) then
    zbind (fX10_less x1 (v_1 x0 41) v_1) fun r_4 v_3 =>
    if r_4 = (0 : Int32) then
      some ((0 : Int32), v_3)
    else
      zlet (zup v_3 x0 41 ((v_3 x0 41) - r_4)) fun v_5 =>
      zbindv (fX10_copies (zrf x0 36) (zrf x0 35) v_5) fun v_6 =>
      fX10_undo_69  zFU x0 r_4 (0 : Int32) v_6
  else
    some ((0 : Int32), v_1)
set_option maxRecDepth 4000 in
theorem jX10_undo_21 (x : zCx) (G : zG) (F : zF x G cX10_undo 4 RX10 7 215) (hr : x.2.2.2.2.2.2.2.2.1.sig.returnType = (Option.some FieldType.int)) (hk : x.2.2.2.2.2.2.2.2.1.locks = false) (r : Int32) (w : zV)  : ∀ (x0 : Nat) (t0 : zty G x0 1 10) (x1 : Int32) (s0 : Nat) (ts0 : zty G s0 1 10) (s1 : Int32) (v : zV), fX10_undo_21 x0 x1 s0 s1 v = some (r, w) → zJ x G 4 (zQ x G (some (.int r)) w 0 0) 0 0 21 [(0, zr G x0), (1, .int x1)] [.int s1, zr G s0] v := by
  intro x0 t0 x1 s0 ts0 s1 v h
  unfold fX10_undo_21 at h
  refine z_iconst (y := (1 : Int32)) F dX10_undo_21 rfl ?_
  refine z_iconst (y := (1 : Int32)) F dX10_undo_22 rfl ?_
  obtain ⟨r_2, v_1, hq23, h⟩ := zbind_ex h
  refine z_callVi F [.int s1, .int (1 : Int32), .int (1 : Int32)] [] (kX10_bad x.2.1 G s0 ts0 s1 (1 : Int32) (1 : Int32) v r_2 v_1 hq23) mI_X10_bad (c := 10) rfl ts0 wM_X10_220 mi_X10_bad sl_X10_bad dX10_undo_23 rfl ⟨Nat.le_of_ble_eq_true rfl, Nat.le_of_ble_eq_true rfl⟩ rfl (Nat.le_of_ble_eq_true rfl) ⟨Nat.zero_le _, Nat.zero_le _⟩ ?_
  refine z_if_eq F 31 dX10_undo_26 rfl (fun hc => ?_) (fun hc => ?_)
  · replace h := zif_t hc h
    refine z_iload_n F dX10_undo_31 rfl 1 rfl ?_
    refine z_aload_n F dX10_undo_32 rfl 0 rfl ?_
    refine zg_10_41 F t0 wF_X10_253 dX10_undo_33 ?_
    obtain ⟨r_4, v_3, hq36, h⟩ := zbind_ex h
    refine z_callSi F [.int x1, .int (v_1 x0 41)] [] (kX10_less x.2.1 G x1 (v_1 x0 41) v_1 r_4 v_3 hq36) mI_X10_less wM_X10_284 ms_X10_less dX10_undo_36 rfl ⟨Nat.le_of_ble_eq_true rfl, Nat.le_of_ble_eq_true rfl⟩ rfl (Nat.le_of_ble_eq_true rfl) ⟨Nat.zero_le _, Nat.zero_le _⟩ ?_
    refine z_istore_n F [(2, .int r_4), (0, zr G x0), (1, .int x1)] dX10_undo_39 rfl (Nat.le_of_ble_eq_true rfl) rfl ?_
    refine z_iload_n F dX10_undo_40 rfl 0 rfl ?_
    refine z_if_ne F 46 dX10_undo_41 rfl (fun hc => ?_) (fun hc => ?_)
    · replace h := zif_f hc h
      refine z_aload_n F dX10_undo_46 rfl 1 rfl ?_
      refine z_dup F dX10_undo_47 rfl ?_
      refine zg_10_41 F t0 wF_X10_253 dX10_undo_48 ?_
      refine z_iload_n F dX10_undo_51 rfl 0 rfl ?_
      refine z_isub F dX10_undo_52 ?_
      refine zp_10_41 F t0 wF_X10_253 dX10_undo_53 ?_
      obtain ⟨v_5, ev_5, h⟩ := zlet_ex h
      refine z_heap ev_5 ?_
      refine z_aload_n F dX10_undo_56 rfl 1 rfl ?_
      refine zg_10_36 F t0 wF_X10_88 dX10_undo_57 ?_
      refine z_aload_n F dX10_undo_60 rfl 1 rfl ?_
      refine zg_10_35 F t0 wF_X10_85 dX10_undo_61 ?_
      obtain ⟨v_6, hq64, h⟩ := zbindv_ex h
      refine z_callSv F [zr G (zrf x0 36), zr G (zrf x0 35)] [] (kX10_copies x.2.1 G (zrf x0 36) (zt_f tc_10_36 t0) (zrf x0 35) (zt_f tc_10_35 t0) v_5 v_6 hq64) mI_X10_copies wM_X10_237 ms_X10_copies dX10_undo_64 rfl ⟨Nat.le_of_ble_eq_true rfl, Nat.le_of_ble_eq_true rfl⟩ rfl (Nat.le_of_ble_eq_true rfl) ⟨Nat.zero_le _, Nat.zero_le _⟩ ?_
      refine z_iconst (y := (0 : Int32)) F dX10_undo_67 rfl ?_
      refine z_istore_n F [(3, .int (0 : Int32)), (2, .int r_4), (0, zr G x0), (1, .int x1)] dX10_undo_68 rfl (Nat.le_of_ble_eq_true rfl) rfl ?_
      refine z_ls [(0, zr G x0), (2, .int r_4), (3, .int (0 : Int32))] [2, 1, 0] rfl ?_
      exact jX10_undo_69 x G F hr hk r w   zFU x0 t0 r_4 (0 : Int32) v_6 h
    · replace h := zif_t hc h
      refine z_iconst (y := (0 : Int32)) F dX10_undo_44 rfl ?_
      cases h
      exact z_reti F hr hk dX10_undo_45
  · replace h := zif_f hc h
    refine z_iconst (y := (0 : Int32)) F dX10_undo_29 rfl ?_
    cases h
    exact z_reti F hr hk dX10_undo_30

def fX10_undo (x0 : Nat) (x1 : Int32) (v : zV) : Option (Int32 × zV) :=
  zlet (zup v x0 0 (0 : Int32)) fun v_1 =>
  zbind (fX10_in x1 (1 : Int32) (60 : Int32) v_1) fun r_3 v_2 =>
  if r_3 = (0 : Int32) then
    fX10_undo_21  x0 x1 x0 (1 : Int32) v_2
  else
    fX10_undo_21  x0 x1 x0 (0 : Int32) v_2
set_option maxRecDepth 4000 in
theorem kX10_undo (l : Launch) (G : zG) (x0 : Nat) (t0 : zty G x0 1 10) (x1 : Int32) (v : zV) (r : Int32) (w : zV) (h : fX10_undo x0 x1 v = some (r, w)) : zMet l yX10_undo cX10_undo 4 (Option.some FieldType.int) 7 215 0 0 [zr G x0, .int x1] G v (some (.int r)) w := by
  refine zM_of (own := RX10) (by decide) rfl (Nat.le_of_ble_eq_true rfl) (fun x hl F hr hk hcs => ?_)
  subst hl
  refine z_ls [(0, zr G x0), (1, .int x1)] [0, 1] rfl ?_
  unfold fX10_undo at h
  refine z_aload_n F dX10_undo_0 rfl 0 rfl ?_
  refine z_iconst (y := (0 : Int32)) F dX10_undo_1 rfl ?_
  refine zp_10_0 F t0 wF_X10_134 dX10_undo_2 ?_
  obtain ⟨v_1, ev_1, h⟩ := zlet_ex h
  refine z_heap ev_1 ?_
  refine z_aload_n F dX10_undo_5 rfl 0 rfl ?_
  refine z_iload_n F dX10_undo_6 rfl 1 rfl ?_
  refine z_iconst (y := (1 : Int32)) F dX10_undo_7 rfl ?_
  refine z_bipush (y := (60 : Int32)) F dX10_undo_8 rfl ?_
  obtain ⟨r_3, v_2, hq10, h⟩ := zbind_ex h
  refine z_callSi F [.int x1, .int (1 : Int32), .int (60 : Int32)] [zr G x0] (kX10_in x.2.1 G x1 (1 : Int32) (60 : Int32) v_1 r_3 v_2 hq10) mI_X10_in wM_X10_168 ms_X10_in dX10_undo_10 rfl ⟨Nat.le_of_ble_eq_true rfl, Nat.le_of_ble_eq_true rfl⟩ rfl (Nat.le_of_ble_eq_true rfl) ⟨Nat.zero_le _, Nat.zero_le _⟩ ?_
  refine z_if_ne F 20 dX10_undo_13 rfl (fun hc => ?_) (fun hc => ?_)
  · replace h := zif_f hc h
    refine z_iconst (y := (0 : Int32)) F dX10_undo_20 rfl ?_
    refine z_ls [(0, zr G x0), (1, .int x1)] [0, 1] rfl ?_
    exact jX10_undo_21 x G F hr hk r w   x0 t0 x1 x0 t0 (0 : Int32) v_2 h
  · replace h := zif_t hc h
    refine z_iconst (y := (1 : Int32)) F dX10_undo_16 rfl ?_
    refine z_goto F 21 dX10_undo_17 rfl ?_
    refine z_ls [(0, zr G x0), (1, .int x1)] [0, 1] rfl ?_
    exact jX10_undo_21 x G F hr hk r w   x0 t0 x1 x0 t0 (1 : Int32) v_2 h

theorem dX10_taken_0 : decode cX10_taken 0 = .ok (.aload_n 0, 1) := by decide +kernel
theorem dX10_taken_1 : decode cX10_taken 1 = .ok (.iconst 0, 1) := by decide +kernel
theorem dX10_taken_2 : decode cX10_taken 2 = .ok (.putfield 134, 3) := by decide +kernel
theorem dX10_taken_5 : decode cX10_taken 5 = .ok (.iload_n 1, 1) := by decide +kernel
theorem dX10_taken_6 : decode cX10_taken 6 = .ok (.iconst 1, 1) := by decide +kernel
theorem dX10_taken_7 : decode cX10_taken 7 = .ok (.sipush 200, 3) := by decide +kernel
theorem dX10_taken_10 : decode cX10_taken 10 = .ok (.invokestatic 168, 3) := by decide +kernel
theorem dX10_taken_13 : decode cX10_taken 13 = .ok (.ifCond .eq 15, 3) := by decide +kernel
theorem dX10_taken_16 : decode cX10_taken 16 = .ok (.aload_n 0, 1) := by decide +kernel
theorem dX10_taken_17 : decode cX10_taken 17 = .ok (.getfield 85, 3) := by decide +kernel
theorem dX10_taken_20 : decode cX10_taken 20 = .ok (.bipush 104, 2) := by decide +kernel
theorem dX10_taken_22 : decode cX10_taken 22 = .ok (.iload_n 1, 1) := by decide +kernel
theorem dX10_taken_23 : decode cX10_taken 23 = .ok (.iadd, 1) := by decide +kernel
theorem dX10_taken_24 : decode cX10_taken 24 = .ok (.iaload, 1) := by decide +kernel
theorem dX10_taken_25 : decode cX10_taken 25 = .ok (.goto 5, 3) := by decide +kernel
theorem dX10_taken_28 : decode cX10_taken 28 = .ok (.bipush (-2), 2) := by decide +kernel
theorem dX10_taken_30 : decode cX10_taken 30 = .ok (.ireturn, 1) := by decide +kernel
def fX10_taken (x0 : Nat) (x1 : Int32) (v : zV) : Option (Int32 × zV) :=
  zlet (zup v x0 0 (0 : Int32)) fun v_1 =>
  zbind (fX10_in x1 (1 : Int32) (200 : Int32) v_1) fun r_3 v_2 =>
  if r_3 = (0 : Int32) then
    some ((-2 : Int32), v_2)
  else
    zix ((104 : Int32) + x1) (zlen (zrf x0 35)) <|
    some (v_2 (zrf x0 35) ((104 : Int32) + x1).toNatClampNeg, v_2)
set_option maxRecDepth 4000 in
theorem kX10_taken (l : Launch) (G : zG) (x0 : Nat) (t0 : zty G x0 1 10) (x1 : Int32) (v : zV) (r : Int32) (w : zV) (h : fX10_taken x0 x1 v = some (r, w)) : zMet l yX10_taken cX10_taken 2 (Option.some FieldType.int) 2 102 0 0 [zr G x0, .int x1] G v (some (.int r)) w := by
  refine zM_of (own := RX10) (by decide) rfl (Nat.le_of_ble_eq_true rfl) (fun x hl F hr hk hcs => ?_)
  subst hl
  refine z_ls [(0, zr G x0), (1, .int x1)] [0, 1] rfl ?_
  unfold fX10_taken at h
  refine z_aload_n F dX10_taken_0 rfl 0 rfl ?_
  refine z_iconst (y := (0 : Int32)) F dX10_taken_1 rfl ?_
  refine zp_10_0 F t0 wF_X10_134 dX10_taken_2 ?_
  obtain ⟨v_1, ev_1, h⟩ := zlet_ex h
  refine z_heap ev_1 ?_
  refine z_iload_n F dX10_taken_5 rfl 1 rfl ?_
  refine z_iconst (y := (1 : Int32)) F dX10_taken_6 rfl ?_
  refine z_sipush (y := (200 : Int32)) F dX10_taken_7 rfl ?_
  obtain ⟨r_3, v_2, hq10, h⟩ := zbind_ex h
  refine z_callSi F [.int x1, .int (1 : Int32), .int (200 : Int32)] [] (kX10_in x.2.1 G x1 (1 : Int32) (200 : Int32) v_1 r_3 v_2 hq10) mI_X10_in wM_X10_168 ms_X10_in dX10_taken_10 rfl ⟨Nat.le_of_ble_eq_true rfl, Nat.le_of_ble_eq_true rfl⟩ rfl (Nat.le_of_ble_eq_true rfl) ⟨Nat.zero_le _, Nat.zero_le _⟩ ?_
  refine z_if_eq F 28 dX10_taken_13 rfl (fun hc => ?_) (fun hc => ?_)
  · replace h := zif_t hc h
    refine z_bipush (y := (-2 : Int32)) F dX10_taken_28 rfl ?_
    cases h
    exact z_reti F hr hk dX10_taken_30
  · replace h := zif_f hc h
    refine z_aload_n F dX10_taken_16 rfl 0 rfl ?_
    refine zg_10_35 F t0 wF_X10_85 dX10_taken_17 ?_
    refine z_bipush (y := (104 : Int32)) F dX10_taken_20 rfl ?_
    refine z_iload_n F dX10_taken_22 rfl 1 rfl ?_
    refine z_iadd F dX10_taken_23 ?_
    obtain ⟨hi24, h⟩ := zix_ex h
    refine z_iald F (zt_f tc_10_35 t0) dX10_taken_24 hi24 ?_
    refine z_goto F 30 dX10_taken_25 rfl ?_
    cases h
    exact z_reti F hr hk dX10_taken_30

theorem dX10_sums_0 : decode cX10_sums 0 = .ok (.aload_n 0, 1) := by decide +kernel
theorem dX10_sums_1 : decode cX10_sums 1 = .ok (.iconst 0, 1) := by decide +kernel
theorem dX10_sums_2 : decode cX10_sums 2 = .ok (.putfield 134, 3) := by decide +kernel
theorem dX10_sums_5 : decode cX10_sums 5 = .ok (.aload_n 0, 1) := by decide +kernel
theorem dX10_sums_6 : decode cX10_sums 6 = .ok (.iload_n 1, 1) := by decide +kernel
theorem dX10_sums_7 : decode cX10_sums 7 = .ok (.iconst 0, 1) := by decide +kernel
theorem dX10_sums_8 : decode cX10_sums 8 = .ok (.iconst 3, 1) := by decide +kernel
theorem dX10_sums_9 : decode cX10_sums 9 = .ok (.invokestatic 168, 3) := by decide +kernel
theorem dX10_sums_12 : decode cX10_sums 12 = .ok (.ifCond .ne 7, 3) := by decide +kernel
theorem dX10_sums_15 : decode cX10_sums 15 = .ok (.iconst 1, 1) := by decide +kernel
theorem dX10_sums_16 : decode cX10_sums 16 = .ok (.goto 4, 3) := by decide +kernel
theorem dX10_sums_19 : decode cX10_sums 19 = .ok (.iconst 0, 1) := by decide +kernel
theorem dX10_sums_20 : decode cX10_sums 20 = .ok (.iconst 1, 1) := by decide +kernel
theorem dX10_sums_21 : decode cX10_sums 21 = .ok (.iconst 1, 1) := by decide +kernel
theorem dX10_sums_22 : decode cX10_sums 22 = .ok (.invokevirtual 220, 3) := by decide +kernel
theorem dX10_sums_25 : decode cX10_sums 25 = .ok (.ifCond .eq 5, 3) := by decide +kernel
theorem dX10_sums_28 : decode cX10_sums 28 = .ok (.iconst 0, 1) := by decide +kernel
theorem dX10_sums_29 : decode cX10_sums 29 = .ok (.ireturn, 1) := by decide +kernel
theorem dX10_sums_30 : decode cX10_sums 30 = .ok (.aload_n 0, 1) := by decide +kernel
theorem dX10_sums_31 : decode cX10_sums 31 = .ok (.getfield 85, 3) := by decide +kernel
theorem dX10_sums_34 : decode cX10_sums 34 = .ok (.bipush 100, 2) := by decide +kernel
theorem dX10_sums_36 : decode cX10_sums 36 = .ok (.iload_n 1, 1) := by decide +kernel
theorem dX10_sums_37 : decode cX10_sums 37 = .ok (.iadd, 1) := by decide +kernel
theorem dX10_sums_38 : decode cX10_sums 38 = .ok (.iaload, 1) := by decide +kernel
theorem dX10_sums_39 : decode cX10_sums 39 = .ok (.ireturn, 1) := by decide +kernel
def fX10_sums_20  (x0 : Nat) (x1 : Int32) (s0 : Nat) (s1 : Int32) (v : zV) : Option (Int32 × zV) :=
  zbind (fX10_bad s0 s1 (1 : Int32) (1 : Int32) v) fun r_2 v_1 =>
  if r_2 = (0 : Int32) then
    zix ((100 : Int32) + x1) (zlen (zrf x0 35)) <|
    some (v_1 (zrf x0 35) ((100 : Int32) + x1).toNatClampNeg, v_1)
  else
    some ((0 : Int32), v_1)
set_option maxRecDepth 4000 in
theorem jX10_sums_20 (x : zCx) (G : zG) (F : zF x G cX10_sums 2 RX10 2 103) (hr : x.2.2.2.2.2.2.2.2.1.sig.returnType = (Option.some FieldType.int)) (hk : x.2.2.2.2.2.2.2.2.1.locks = false) (r : Int32) (w : zV)  : ∀ (x0 : Nat) (t0 : zty G x0 1 10) (x1 : Int32) (s0 : Nat) (ts0 : zty G s0 1 10) (s1 : Int32) (v : zV), fX10_sums_20 x0 x1 s0 s1 v = some (r, w) → zJ x G 2 (zQ x G (some (.int r)) w 0 0) 0 0 20 [(0, zr G x0), (1, .int x1)] [.int s1, zr G s0] v := by
  intro x0 t0 x1 s0 ts0 s1 v h
  unfold fX10_sums_20 at h
  refine z_iconst (y := (1 : Int32)) F dX10_sums_20 rfl ?_
  refine z_iconst (y := (1 : Int32)) F dX10_sums_21 rfl ?_
  obtain ⟨r_2, v_1, hq22, h⟩ := zbind_ex h
  refine z_callVi F [.int s1, .int (1 : Int32), .int (1 : Int32)] [] (kX10_bad x.2.1 G s0 ts0 s1 (1 : Int32) (1 : Int32) v r_2 v_1 hq22) mI_X10_bad (c := 10) rfl ts0 wM_X10_220 mi_X10_bad sl_X10_bad dX10_sums_22 rfl ⟨Nat.le_of_ble_eq_true rfl, Nat.le_of_ble_eq_true rfl⟩ rfl (Nat.le_of_ble_eq_true rfl) ⟨Nat.zero_le _, Nat.zero_le _⟩ ?_
  refine z_if_eq F 30 dX10_sums_25 rfl (fun hc => ?_) (fun hc => ?_)
  · replace h := zif_t hc h
    refine z_aload_n F dX10_sums_30 rfl 0 rfl ?_
    refine zg_10_35 F t0 wF_X10_85 dX10_sums_31 ?_
    refine z_bipush (y := (100 : Int32)) F dX10_sums_34 rfl ?_
    refine z_iload_n F dX10_sums_36 rfl 1 rfl ?_
    refine z_iadd F dX10_sums_37 ?_
    obtain ⟨hi38, h⟩ := zix_ex h
    refine z_iald F (zt_f tc_10_35 t0) dX10_sums_38 hi38 ?_
    cases h
    exact z_reti F hr hk dX10_sums_39
  · replace h := zif_f hc h
    refine z_iconst (y := (0 : Int32)) F dX10_sums_28 rfl ?_
    cases h
    exact z_reti F hr hk dX10_sums_29

def fX10_sums (x0 : Nat) (x1 : Int32) (v : zV) : Option (Int32 × zV) :=
  zlet (zup v x0 0 (0 : Int32)) fun v_1 =>
  zbind (fX10_in x1 (0 : Int32) (3 : Int32) v_1) fun r_3 v_2 =>
  if r_3 = (0 : Int32) then
    fX10_sums_20  x0 x1 x0 (1 : Int32) v_2
  else
    fX10_sums_20  x0 x1 x0 (0 : Int32) v_2
set_option maxRecDepth 4000 in
theorem kX10_sums (l : Launch) (G : zG) (x0 : Nat) (t0 : zty G x0 1 10) (x1 : Int32) (v : zV) (r : Int32) (w : zV) (h : fX10_sums x0 x1 v = some (r, w)) : zMet l yX10_sums cX10_sums 2 (Option.some FieldType.int) 2 103 0 0 [zr G x0, .int x1] G v (some (.int r)) w := by
  refine zM_of (own := RX10) (by decide) rfl (Nat.le_of_ble_eq_true rfl) (fun x hl F hr hk hcs => ?_)
  subst hl
  refine z_ls [(0, zr G x0), (1, .int x1)] [0, 1] rfl ?_
  unfold fX10_sums at h
  refine z_aload_n F dX10_sums_0 rfl 0 rfl ?_
  refine z_iconst (y := (0 : Int32)) F dX10_sums_1 rfl ?_
  refine zp_10_0 F t0 wF_X10_134 dX10_sums_2 ?_
  obtain ⟨v_1, ev_1, h⟩ := zlet_ex h
  refine z_heap ev_1 ?_
  refine z_aload_n F dX10_sums_5 rfl 0 rfl ?_
  refine z_iload_n F dX10_sums_6 rfl 1 rfl ?_
  refine z_iconst (y := (0 : Int32)) F dX10_sums_7 rfl ?_
  refine z_iconst (y := (3 : Int32)) F dX10_sums_8 rfl ?_
  obtain ⟨r_3, v_2, hq9, h⟩ := zbind_ex h
  refine z_callSi F [.int x1, .int (0 : Int32), .int (3 : Int32)] [zr G x0] (kX10_in x.2.1 G x1 (0 : Int32) (3 : Int32) v_1 r_3 v_2 hq9) mI_X10_in wM_X10_168 ms_X10_in dX10_sums_9 rfl ⟨Nat.le_of_ble_eq_true rfl, Nat.le_of_ble_eq_true rfl⟩ rfl (Nat.le_of_ble_eq_true rfl) ⟨Nat.zero_le _, Nat.zero_le _⟩ ?_
  refine z_if_ne F 19 dX10_sums_12 rfl (fun hc => ?_) (fun hc => ?_)
  · replace h := zif_f hc h
    refine z_iconst (y := (0 : Int32)) F dX10_sums_19 rfl ?_
    refine z_ls [(0, zr G x0), (1, .int x1)] [0, 1] rfl ?_
    exact jX10_sums_20 x G F hr hk r w   x0 t0 x1 x0 t0 (0 : Int32) v_2 h
  · replace h := zif_t hc h
    refine z_iconst (y := (1 : Int32)) F dX10_sums_15 rfl ?_
    refine z_goto F 20 dX10_sums_16 rfl ?_
    refine z_ls [(0, zr G x0), (1, .int x1)] [0, 1] rfl ?_
    exact jX10_sums_20 x G F hr hk r w   x0 t0 x1 x0 t0 (1 : Int32) v_2 h

theorem dX10_die_0 : decode cX10_die 0 = .ok (.aload_n 0, 1) := by decide +kernel
theorem dX10_die_1 : decode cX10_die 1 = .ok (.iconst 0, 1) := by decide +kernel
theorem dX10_die_2 : decode cX10_die 2 = .ok (.putfield 134, 3) := by decide +kernel
theorem dX10_die_5 : decode cX10_die 5 = .ok (.aload_n 0, 1) := by decide +kernel
theorem dX10_die_6 : decode cX10_die 6 = .ok (.aload_n 0, 1) := by decide +kernel
theorem dX10_die_7 : decode cX10_die 7 = .ok (.iload_n 1, 1) := by decide +kernel
theorem dX10_die_8 : decode cX10_die 8 = .ok (.invokevirtual 298, 3) := by decide +kernel
theorem dX10_die_11 : decode cX10_die 11 = .ok (.ifCond .ne 7, 3) := by decide +kernel
theorem dX10_die_14 : decode cX10_die 14 = .ok (.iconst 1, 1) := by decide +kernel
theorem dX10_die_15 : decode cX10_die 15 = .ok (.goto 4, 3) := by decide +kernel
theorem dX10_die_18 : decode cX10_die 18 = .ok (.iconst 0, 1) := by decide +kernel
theorem dX10_die_19 : decode cX10_die 19 = .ok (.iconst 1, 1) := by decide +kernel
theorem dX10_die_20 : decode cX10_die 20 = .ok (.iconst 0, 1) := by decide +kernel
theorem dX10_die_21 : decode cX10_die 21 = .ok (.invokevirtual 220, 3) := by decide +kernel
theorem dX10_die_24 : decode cX10_die 24 = .ok (.ifCond .eq 5, 3) := by decide +kernel
theorem dX10_die_27 : decode cX10_die 27 = .ok (.iconst 0, 1) := by decide +kernel
theorem dX10_die_28 : decode cX10_die 28 = .ok (.ireturn, 1) := by decide +kernel
theorem dX10_die_29 : decode cX10_die 29 = .ok (.aload_n 0, 1) := by decide +kernel
theorem dX10_die_30 : decode cX10_die 30 = .ok (.getfield 85, 3) := by decide +kernel
theorem dX10_die_33 : decode cX10_die 33 = .ok (.iconst 0, 1) := by decide +kernel
theorem dX10_die_34 : decode cX10_die 34 = .ok (.iload_n 1, 1) := by decide +kernel
theorem dX10_die_35 : decode cX10_die 35 = .ok (.iadd, 1) := by decide +kernel
theorem dX10_die_36 : decode cX10_die 36 = .ok (.iaload, 1) := by decide +kernel
theorem dX10_die_37 : decode cX10_die 37 = .ok (.iconst 3, 1) := by decide +kernel
theorem dX10_die_38 : decode cX10_die 38 = .ok (.if_icmp .ne 5, 3) := by decide +kernel
theorem dX10_die_41 : decode cX10_die 41 = .ok (.iconst 0, 1) := by decide +kernel
theorem dX10_die_42 : decode cX10_die 42 = .ok (.ireturn, 1) := by decide +kernel
theorem dX10_die_43 : decode cX10_die 43 = .ok (.aload_n 0, 1) := by decide +kernel
theorem dX10_die_44 : decode cX10_die 44 = .ok (.getfield 85, 3) := by decide +kernel
theorem dX10_die_47 : decode cX10_die 47 = .ok (.bipush 102, 2) := by decide +kernel
theorem dX10_die_49 : decode cX10_die 49 = .ok (.iaload, 1) := by decide +kernel
theorem dX10_die_50 : decode cX10_die 50 = .ok (.istore_n 2, 1) := by decide +kernel
theorem dX10_die_51 : decode cX10_die 51 = .ok (.aload_n 0, 1) := by decide +kernel
theorem dX10_die_52 : decode cX10_die 52 = .ok (.aload_n 0, 1) := by decide +kernel
theorem dX10_die_53 : decode cX10_die 53 = .ok (.getfield 85, 3) := by decide +kernel
theorem dX10_die_56 : decode cX10_die 56 = .ok (.iload_n 1, 1) := by decide +kernel
theorem dX10_die_57 : decode cX10_die 57 = .ok (.invokevirtual 333, 3) := by decide +kernel
theorem dX10_die_60 : decode cX10_die 60 = .ok (.aload_n 0, 1) := by decide +kernel
theorem dX10_die_61 : decode cX10_die 61 = .ok (.invokevirtual 250, 3) := by decide +kernel
theorem dX10_die_64 : decode cX10_die 64 = .ok (.iconst 1, 1) := by decide +kernel
theorem dX10_die_65 : decode cX10_die 65 = .ok (.aload_n 0, 1) := by decide +kernel
theorem dX10_die_66 : decode cX10_die 66 = .ok (.getfield 85, 3) := by decide +kernel
theorem dX10_die_69 : decode cX10_die 69 = .ok (.bipush 102, 2) := by decide +kernel
theorem dX10_die_71 : decode cX10_die 71 = .ok (.iaload, 1) := by decide +kernel
theorem dX10_die_72 : decode cX10_die 72 = .ok (.iadd, 1) := by decide +kernel
theorem dX10_die_73 : decode cX10_die 73 = .ok (.iload_n 2, 1) := by decide +kernel
theorem dX10_die_74 : decode cX10_die 74 = .ok (.isub, 1) := by decide +kernel
theorem dX10_die_75 : decode cX10_die 75 = .ok (.ireturn, 1) := by decide +kernel
def fX10_die_19  (x0 : Nat) (x1 : Int32) (s0 : Nat) (s1 : Int32) (v : zV) : Option (Int32 × zV) :=
  zbind (fX10_bad s0 s1 (1 : Int32) (0 : Int32) v) fun r_2 v_1 =>
  if r_2 = (0 : Int32) then
    zix ((0 : Int32) + x1) (zlen (zrf x0 35)) <|
    if (v_1 (zrf x0 35) ((0 : Int32) + x1).toNatClampNeg) = (3 : Int32) then
      some ((0 : Int32), v_1)
    else
      zix (102 : Int32) (zlen (zrf x0 35)) <|
      zbindv (fX10_dies x0 (zrf x0 35) x1 v_1) fun v_3 =>
      zbindv (fX10_settles x0 v_3) fun v_4 =>
      zix (102 : Int32) (zlen (zrf x0 35)) <|
      some (((1 : Int32) + (v_4 (zrf x0 35) ((102 : Int32)).toNatClampNeg)) - (v_1 (zrf x0 35) ((102 : Int32)).toNatClampNeg), v_4)
  else
    some ((0 : Int32), v_1)
set_option maxRecDepth 4000 in
theorem jX10_die_19 (x : zCx) (G : zG) (F : zF x G cX10_die 3 RX10 4 146) (hr : x.2.2.2.2.2.2.2.2.1.sig.returnType = (Option.some FieldType.int)) (hk : x.2.2.2.2.2.2.2.2.1.locks = false) (r : Int32) (w : zV)  : ∀ (x0 : Nat) (t0 : zty G x0 1 10) (x1 : Int32) (s0 : Nat) (ts0 : zty G s0 1 10) (s1 : Int32) (v : zV), fX10_die_19 x0 x1 s0 s1 v = some (r, w) → zJ x G 3 (zQ x G (some (.int r)) w 0 0) 0 0 19 [(0, zr G x0), (1, .int x1)] [.int s1, zr G s0] v := by
  intro x0 t0 x1 s0 ts0 s1 v h
  unfold fX10_die_19 at h
  refine z_iconst (y := (1 : Int32)) F dX10_die_19 rfl ?_
  refine z_iconst (y := (0 : Int32)) F dX10_die_20 rfl ?_
  obtain ⟨r_2, v_1, hq21, h⟩ := zbind_ex h
  refine z_callVi F [.int s1, .int (1 : Int32), .int (0 : Int32)] [] (kX10_bad x.2.1 G s0 ts0 s1 (1 : Int32) (0 : Int32) v r_2 v_1 hq21) mI_X10_bad (c := 10) rfl ts0 wM_X10_220 mi_X10_bad sl_X10_bad dX10_die_21 rfl ⟨Nat.le_of_ble_eq_true rfl, Nat.le_of_ble_eq_true rfl⟩ rfl (Nat.le_of_ble_eq_true rfl) ⟨Nat.zero_le _, Nat.zero_le _⟩ ?_
  refine z_if_eq F 29 dX10_die_24 rfl (fun hc => ?_) (fun hc => ?_)
  · replace h := zif_t hc h
    refine z_aload_n F dX10_die_29 rfl 0 rfl ?_
    refine zg_10_35 F t0 wF_X10_85 dX10_die_30 ?_
    refine z_iconst (y := (0 : Int32)) F dX10_die_33 rfl ?_
    refine z_iload_n F dX10_die_34 rfl 1 rfl ?_
    refine z_iadd F dX10_die_35 ?_
    obtain ⟨hi36, h⟩ := zix_ex h
    refine z_iald F (zt_f tc_10_35 t0) dX10_die_36 hi36 ?_
    refine z_iconst (y := (3 : Int32)) F dX10_die_37 rfl ?_
    refine z_icmp_ne F 43 dX10_die_38 rfl (fun hc => ?_) (fun hc => ?_)
    · replace h := zif_f hc h
      refine z_aload_n F dX10_die_43 rfl 0 rfl ?_
      refine zg_10_35 F t0 wF_X10_85 dX10_die_44 ?_
      refine z_bipush (y := (102 : Int32)) F dX10_die_47 rfl ?_
      obtain ⟨hi49, h⟩ := zix_ex h
      refine z_iald F (zt_f tc_10_35 t0) dX10_die_49 hi49 ?_
      refine z_istore_n F [(2, .int (v_1 (zrf x0 35) ((102 : Int32)).toNatClampNeg)), (0, zr G x0), (1, .int x1)] dX10_die_50 rfl (Nat.le_of_ble_eq_true rfl) rfl ?_
      refine z_aload_n F dX10_die_51 rfl 1 rfl ?_
      refine z_aload_n F dX10_die_52 rfl 1 rfl ?_
      refine zg_10_35 F t0 wF_X10_85 dX10_die_53 ?_
      refine z_iload_n F dX10_die_56 rfl 2 rfl ?_
      obtain ⟨v_3, hq57, h⟩ := zbindv_ex h
      refine z_callVv F [zr G (zrf x0 35), .int x1] [] (kX10_dies x.2.1 G x0 t0 (zrf x0 35) (zt_f tc_10_35 t0) x1 v_1 v_3 hq57) mI_X10_dies (c := 10) rfl t0 wM_X10_333 mi_X10_dies sl_X10_dies dX10_die_57 rfl ⟨Nat.le_of_ble_eq_true rfl, Nat.le_of_ble_eq_true rfl⟩ rfl (Nat.le_of_ble_eq_true rfl) ⟨Nat.zero_le _, Nat.zero_le _⟩ ?_
      refine z_aload_n F dX10_die_60 rfl 1 rfl ?_
      obtain ⟨v_4, hq61, h⟩ := zbindv_ex h
      refine z_callVv F [] [] (kX10_settles x.2.1 G x0 t0 v_3 v_4 hq61) mI_X10_settles (c := 10) rfl t0 wM_X10_250 mi_X10_settles sl_X10_settles dX10_die_61 rfl ⟨Nat.le_of_ble_eq_true rfl, Nat.le_of_ble_eq_true rfl⟩ rfl (Nat.le_of_ble_eq_true rfl) ⟨Nat.zero_le _, Nat.zero_le _⟩ ?_
      refine z_iconst (y := (1 : Int32)) F dX10_die_64 rfl ?_
      refine z_aload_n F dX10_die_65 rfl 1 rfl ?_
      refine zg_10_35 F t0 wF_X10_85 dX10_die_66 ?_
      refine z_bipush (y := (102 : Int32)) F dX10_die_69 rfl ?_
      obtain ⟨hi71, h⟩ := zix_ex h
      refine z_iald F (zt_f tc_10_35 t0) dX10_die_71 hi71 ?_
      refine z_iadd F dX10_die_72 ?_
      refine z_iload_n F dX10_die_73 rfl 0 rfl ?_
      refine z_isub F dX10_die_74 ?_
      cases h
      exact z_reti F hr hk dX10_die_75
    · replace h := zif_t hc h
      refine z_iconst (y := (0 : Int32)) F dX10_die_41 rfl ?_
      cases h
      exact z_reti F hr hk dX10_die_42
  · replace h := zif_f hc h
    refine z_iconst (y := (0 : Int32)) F dX10_die_27 rfl ?_
    cases h
    exact z_reti F hr hk dX10_die_28

def fX10_die (x0 : Nat) (x1 : Int32) (v : zV) : Option (Int32 × zV) :=
  zlet (zup v x0 0 (0 : Int32)) fun v_1 =>
  zbind (fX10_isMan x0 x1 v_1) fun r_3 v_2 =>
  if r_3 = (0 : Int32) then
    fX10_die_19  x0 x1 x0 (1 : Int32) v_2
  else
    fX10_die_19  x0 x1 x0 (0 : Int32) v_2
set_option maxRecDepth 4000 in
theorem kX10_die (l : Launch) (G : zG) (x0 : Nat) (t0 : zty G x0 1 10) (x1 : Int32) (v : zV) (r : Int32) (w : zV) (h : fX10_die x0 x1 v = some (r, w)) : zMet l yX10_die cX10_die 3 (Option.some FieldType.int) 4 146 0 0 [zr G x0, .int x1] G v (some (.int r)) w := by
  refine zM_of (own := RX10) (by decide) rfl (Nat.le_of_ble_eq_true rfl) (fun x hl F hr hk hcs => ?_)
  subst hl
  refine z_ls [(0, zr G x0), (1, .int x1)] [0, 1] rfl ?_
  unfold fX10_die at h
  refine z_aload_n F dX10_die_0 rfl 0 rfl ?_
  refine z_iconst (y := (0 : Int32)) F dX10_die_1 rfl ?_
  refine zp_10_0 F t0 wF_X10_134 dX10_die_2 ?_
  obtain ⟨v_1, ev_1, h⟩ := zlet_ex h
  refine z_heap ev_1 ?_
  refine z_aload_n F dX10_die_5 rfl 0 rfl ?_
  refine z_aload_n F dX10_die_6 rfl 0 rfl ?_
  refine z_iload_n F dX10_die_7 rfl 1 rfl ?_
  obtain ⟨r_3, v_2, hq8, h⟩ := zbind_ex h
  refine z_callVi F [.int x1] [zr G x0] (kX10_isMan x.2.1 G x0 t0 x1 v_1 r_3 v_2 hq8) mI_X10_isMan (c := 10) rfl t0 wM_X10_298 mi_X10_isMan sl_X10_isMan dX10_die_8 rfl ⟨Nat.le_of_ble_eq_true rfl, Nat.le_of_ble_eq_true rfl⟩ rfl (Nat.le_of_ble_eq_true rfl) ⟨Nat.zero_le _, Nat.zero_le _⟩ ?_
  refine z_if_ne F 18 dX10_die_11 rfl (fun hc => ?_) (fun hc => ?_)
  · replace h := zif_f hc h
    refine z_iconst (y := (0 : Int32)) F dX10_die_18 rfl ?_
    refine z_ls [(0, zr G x0), (1, .int x1)] [0, 1] rfl ?_
    exact jX10_die_19 x G F hr hk r w   x0 t0 x1 x0 t0 (0 : Int32) v_2 h
  · replace h := zif_t hc h
    refine z_iconst (y := (1 : Int32)) F dX10_die_14 rfl ?_
    refine z_goto F 19 dX10_die_15 rfl ?_
    refine z_ls [(0, zr G x0), (1, .int x1)] [0, 1] rfl ?_
    exact jX10_die_19 x G F hr hk r w   x0 t0 x1 x0 t0 (1 : Int32) v_2 h

theorem dX10_praise_0 : decode cX10_praise 0 = .ok (.aload_n 0, 1) := by decide +kernel
theorem dX10_praise_1 : decode cX10_praise 1 = .ok (.iconst 0, 1) := by decide +kernel
theorem dX10_praise_2 : decode cX10_praise 2 = .ok (.putfield 134, 3) := by decide +kernel
theorem dX10_praise_5 : decode cX10_praise 5 = .ok (.aload_n 0, 1) := by decide +kernel
theorem dX10_praise_6 : decode cX10_praise 6 = .ok (.aload_n 0, 1) := by decide +kernel
theorem dX10_praise_7 : decode cX10_praise 7 = .ok (.iload_n 1, 1) := by decide +kernel
theorem dX10_praise_8 : decode cX10_praise 8 = .ok (.invokevirtual 298, 3) := by decide +kernel
theorem dX10_praise_11 : decode cX10_praise 11 = .ok (.ifCond .ne 7, 3) := by decide +kernel
theorem dX10_praise_14 : decode cX10_praise 14 = .ok (.iconst 1, 1) := by decide +kernel
theorem dX10_praise_15 : decode cX10_praise 15 = .ok (.goto 4, 3) := by decide +kernel
theorem dX10_praise_18 : decode cX10_praise 18 = .ok (.iconst 0, 1) := by decide +kernel
theorem dX10_praise_19 : decode cX10_praise 19 = .ok (.iconst 1, 1) := by decide +kernel
theorem dX10_praise_20 : decode cX10_praise 20 = .ok (.iconst 0, 1) := by decide +kernel
theorem dX10_praise_21 : decode cX10_praise 21 = .ok (.invokevirtual 220, 3) := by decide +kernel
theorem dX10_praise_24 : decode cX10_praise 24 = .ok (.ifCond .ne 27, 3) := by decide +kernel
theorem dX10_praise_27 : decode cX10_praise 27 = .ok (.aload_n 0, 1) := by decide +kernel
theorem dX10_praise_28 : decode cX10_praise 28 = .ok (.iload_n 2, 1) := by decide +kernel
theorem dX10_praise_29 : decode cX10_praise 29 = .ok (.iconst 1, 1) := by decide +kernel
theorem dX10_praise_30 : decode cX10_praise 30 = .ok (.bipush 99, 2) := by decide +kernel
theorem dX10_praise_32 : decode cX10_praise 32 = .ok (.invokestatic 168, 3) := by decide +kernel
theorem dX10_praise_35 : decode cX10_praise 35 = .ok (.ifCond .ne 7, 3) := by decide +kernel
theorem dX10_praise_38 : decode cX10_praise 38 = .ok (.iconst 1, 1) := by decide +kernel
theorem dX10_praise_39 : decode cX10_praise 39 = .ok (.goto 4, 3) := by decide +kernel
theorem dX10_praise_42 : decode cX10_praise 42 = .ok (.iconst 0, 1) := by decide +kernel
theorem dX10_praise_43 : decode cX10_praise 43 = .ok (.iconst 2, 1) := by decide +kernel
theorem dX10_praise_44 : decode cX10_praise 44 = .ok (.iconst 1, 1) := by decide +kernel
theorem dX10_praise_45 : decode cX10_praise 45 = .ok (.invokevirtual 220, 3) := by decide +kernel
theorem dX10_praise_48 : decode cX10_praise 48 = .ok (.ifCond .eq 5, 3) := by decide +kernel
theorem dX10_praise_51 : decode cX10_praise 51 = .ok (.iconst 0, 1) := by decide +kernel
theorem dX10_praise_52 : decode cX10_praise 52 = .ok (.ireturn, 1) := by decide +kernel
theorem dX10_praise_53 : decode cX10_praise 53 = .ok (.aload_n 0, 1) := by decide +kernel
theorem dX10_praise_54 : decode cX10_praise 54 = .ok (.getfield 85, 3) := by decide +kernel
theorem dX10_praise_57 : decode cX10_praise 57 = .ok (.iconst 0, 1) := by decide +kernel
theorem dX10_praise_58 : decode cX10_praise 58 = .ok (.iload_n 1, 1) := by decide +kernel
theorem dX10_praise_59 : decode cX10_praise 59 = .ok (.iadd, 1) := by decide +kernel
theorem dX10_praise_60 : decode cX10_praise 60 = .ok (.iaload, 1) := by decide +kernel
theorem dX10_praise_61 : decode cX10_praise 61 = .ok (.ifCond .ne 15, 3) := by decide +kernel
theorem dX10_praise_64 : decode cX10_praise 64 = .ok (.aload_n 0, 1) := by decide +kernel
theorem dX10_praise_65 : decode cX10_praise 65 = .ok (.getfield 85, 3) := by decide +kernel
theorem dX10_praise_68 : decode cX10_praise 68 = .ok (.bipush 98, 2) := by decide +kernel
theorem dX10_praise_70 : decode cX10_praise 70 = .ok (.iaload, 1) := by decide +kernel
theorem dX10_praise_71 : decode cX10_praise 71 = .ok (.bipush 12, 2) := by decide +kernel
theorem dX10_praise_73 : decode cX10_praise 73 = .ok (.if_icmp .ne 5, 3) := by decide +kernel
theorem dX10_praise_76 : decode cX10_praise 76 = .ok (.iconst 0, 1) := by decide +kernel
theorem dX10_praise_77 : decode cX10_praise 77 = .ok (.ireturn, 1) := by decide +kernel
theorem dX10_praise_78 : decode cX10_praise 78 = .ok (.bipush 62, 2) := by decide +kernel
theorem dX10_praise_80 : decode cX10_praise 80 = .ok (.iconst 3, 1) := by decide +kernel
theorem dX10_praise_81 : decode cX10_praise 81 = .ok (.aload_n 0, 1) := by decide +kernel
theorem dX10_praise_82 : decode cX10_praise 82 = .ok (.getfield 85, 3) := by decide +kernel
theorem dX10_praise_85 : decode cX10_praise 85 = .ok (.bipush 98, 2) := by decide +kernel
theorem dX10_praise_87 : decode cX10_praise 87 = .ok (.iaload, 1) := by decide +kernel
theorem dX10_praise_88 : decode cX10_praise 88 = .ok (.imul, 1) := by decide +kernel
theorem dX10_praise_89 : decode cX10_praise 89 = .ok (.iadd, 1) := by decide +kernel
theorem dX10_praise_90 : decode cX10_praise 90 = .ok (.istore_n 3, 1) := by decide +kernel
theorem dX10_praise_91 : decode cX10_praise 91 = .ok (.aload_n 0, 1) := by decide +kernel
theorem dX10_praise_92 : decode cX10_praise 92 = .ok (.getfield 85, 3) := by decide +kernel
theorem dX10_praise_95 : decode cX10_praise 95 = .ok (.iload_n 3, 1) := by decide +kernel
theorem dX10_praise_96 : decode cX10_praise 96 = .ok (.aload_n 0, 1) := by decide +kernel
theorem dX10_praise_97 : decode cX10_praise 97 = .ok (.getfield 85, 3) := by decide +kernel
theorem dX10_praise_100 : decode cX10_praise 100 = .ok (.bipush 99, 2) := by decide +kernel
theorem dX10_praise_102 : decode cX10_praise 102 = .ok (.iaload, 1) := by decide +kernel
theorem dX10_praise_103 : decode cX10_praise 103 = .ok (.iastore, 1) := by decide +kernel
theorem dX10_praise_104 : decode cX10_praise 104 = .ok (.aload_n 0, 1) := by decide +kernel
theorem dX10_praise_105 : decode cX10_praise 105 = .ok (.getfield 85, 3) := by decide +kernel
theorem dX10_praise_108 : decode cX10_praise 108 = .ok (.iload_n 3, 1) := by decide +kernel
theorem dX10_praise_109 : decode cX10_praise 109 = .ok (.iconst 1, 1) := by decide +kernel
theorem dX10_praise_110 : decode cX10_praise 110 = .ok (.iadd, 1) := by decide +kernel
theorem dX10_praise_111 : decode cX10_praise 111 = .ok (.iload_n 1, 1) := by decide +kernel
theorem dX10_praise_112 : decode cX10_praise 112 = .ok (.iastore, 1) := by decide +kernel
theorem dX10_praise_113 : decode cX10_praise 113 = .ok (.aload_n 0, 1) := by decide +kernel
theorem dX10_praise_114 : decode cX10_praise 114 = .ok (.getfield 85, 3) := by decide +kernel
theorem dX10_praise_117 : decode cX10_praise 117 = .ok (.iload_n 3, 1) := by decide +kernel
theorem dX10_praise_118 : decode cX10_praise 118 = .ok (.iconst 2, 1) := by decide +kernel
theorem dX10_praise_119 : decode cX10_praise 119 = .ok (.iadd, 1) := by decide +kernel
theorem dX10_praise_120 : decode cX10_praise 120 = .ok (.iload_n 2, 1) := by decide +kernel
theorem dX10_praise_121 : decode cX10_praise 121 = .ok (.iastore, 1) := by decide +kernel
theorem dX10_praise_122 : decode cX10_praise 122 = .ok (.aload_n 0, 1) := by decide +kernel
theorem dX10_praise_123 : decode cX10_praise 123 = .ok (.getfield 85, 3) := by decide +kernel
theorem dX10_praise_126 : decode cX10_praise 126 = .ok (.bipush 98, 2) := by decide +kernel
theorem dX10_praise_128 : decode cX10_praise 128 = .ok (.dup2, 1) := by decide +kernel
theorem dX10_praise_129 : decode cX10_praise 129 = .ok (.iaload, 1) := by decide +kernel
theorem dX10_praise_130 : decode cX10_praise 130 = .ok (.iconst 1, 1) := by decide +kernel
theorem dX10_praise_131 : decode cX10_praise 131 = .ok (.iadd, 1) := by decide +kernel
theorem dX10_praise_132 : decode cX10_praise 132 = .ok (.iastore, 1) := by decide +kernel
theorem dX10_praise_133 : decode cX10_praise 133 = .ok (.aload_n 0, 1) := by decide +kernel
theorem dX10_praise_134 : decode cX10_praise 134 = .ok (.invokevirtual 250, 3) := by decide +kernel
theorem dX10_praise_137 : decode cX10_praise 137 = .ok (.iconst 1, 1) := by decide +kernel
theorem dX10_praise_138 : decode cX10_praise 138 = .ok (.ireturn, 1) := by decide +kernel
def fX10_praise_43  (x0 : Nat) (x1 : Int32) (x2 : Int32) (s0 : Nat) (s1 : Int32) (v : zV) : Option (Int32 × zV) :=
  zbind (fX10_bad s0 s1 (2 : Int32) (1 : Int32) v) fun r_2 v_1 =>
  if r_2 = (0 : Int32) then
    zix ((0 : Int32) + x1) (zlen (zrf x0 35)) <|
    if (v_1 (zrf x0 35) ((0 : Int32) + x1).toNatClampNeg) = (0 : Int32) then
      zix (98 : Int32) (zlen (zrf x0 35)) <|
      if (v_1 (zrf x0 35) ((98 : Int32)).toNatClampNeg) = (12 : Int32) then
        some ((0 : Int32), v_1)
      else
        zix (98 : Int32) (zlen (zrf x0 35)) <|
        zlet ((62 : Int32) + ((3 : Int32) * (v_1 (zrf x0 35) ((98 : Int32)).toNatClampNeg))) fun y_3 =>
        zix (99 : Int32) (zlen (zrf x0 35)) <|
        zix y_3 (zlen (zrf x0 35)) <|
        zlet (zup v_1 (zrf x0 35) (y_3).toNatClampNeg (v_1 (zrf x0 35) ((99 : Int32)).toNatClampNeg)) fun v_4 =>
        zix (y_3 + (1 : Int32)) (zlen (zrf x0 35)) <|
        zlet (zup v_4 (zrf x0 35) (y_3 + (1 : Int32)).toNatClampNeg x1) fun v_5 =>
        zix (y_3 + (2 : Int32)) (zlen (zrf x0 35)) <|
        zlet (zup v_5 (zrf x0 35) (y_3 + (2 : Int32)).toNatClampNeg x2) fun v_6 =>
        zix (98 : Int32) (zlen (zrf x0 35)) <|
        zix (98 : Int32) (zlen (zrf x0 35)) <|
        zlet (zup v_6 (zrf x0 35) ((98 : Int32)).toNatClampNeg ((v_6 (zrf x0 35) ((98 : Int32)).toNatClampNeg) + (1 : Int32))) fun v_7 =>
        zbindv (fX10_settles x0 v_7) fun v_8 =>
        some ((1 : Int32), v_8)
    else
      some ((0 : Int32), v_1)
  else
    some ((0 : Int32), v_1)
set_option maxRecDepth 4000 in
theorem jX10_praise_43 (x : zCx) (G : zG) (F : zF x G cX10_praise 4 RX10 3 123) (hr : x.2.2.2.2.2.2.2.2.1.sig.returnType = (Option.some FieldType.int)) (hk : x.2.2.2.2.2.2.2.2.1.locks = false) (r : Int32) (w : zV)  : ∀ (x0 : Nat) (t0 : zty G x0 1 10) (x1 : Int32) (x2 : Int32) (s0 : Nat) (ts0 : zty G s0 1 10) (s1 : Int32) (v : zV), fX10_praise_43 x0 x1 x2 s0 s1 v = some (r, w) → zJ x G 4 (zQ x G (some (.int r)) w 0 0) 0 0 43 [(0, zr G x0), (1, .int x1), (2, .int x2)] [.int s1, zr G s0] v := by
  intro x0 t0 x1 x2 s0 ts0 s1 v h
  unfold fX10_praise_43 at h
  refine z_iconst (y := (2 : Int32)) F dX10_praise_43 rfl ?_
  refine z_iconst (y := (1 : Int32)) F dX10_praise_44 rfl ?_
  obtain ⟨r_2, v_1, hq45, h⟩ := zbind_ex h
  refine z_callVi F [.int s1, .int (2 : Int32), .int (1 : Int32)] [] (kX10_bad x.2.1 G s0 ts0 s1 (2 : Int32) (1 : Int32) v r_2 v_1 hq45) mI_X10_bad (c := 10) rfl ts0 wM_X10_220 mi_X10_bad sl_X10_bad dX10_praise_45 rfl ⟨Nat.le_of_ble_eq_true rfl, Nat.le_of_ble_eq_true rfl⟩ rfl (Nat.le_of_ble_eq_true rfl) ⟨Nat.zero_le _, Nat.zero_le _⟩ ?_
  refine z_if_eq F 53 dX10_praise_48 rfl (fun hc => ?_) (fun hc => ?_)
  · replace h := zif_t hc h
    refine z_aload_n F dX10_praise_53 rfl 0 rfl ?_
    refine zg_10_35 F t0 wF_X10_85 dX10_praise_54 ?_
    refine z_iconst (y := (0 : Int32)) F dX10_praise_57 rfl ?_
    refine z_iload_n F dX10_praise_58 rfl 1 rfl ?_
    refine z_iadd F dX10_praise_59 ?_
    obtain ⟨hi60, h⟩ := zix_ex h
    refine z_iald F (zt_f tc_10_35 t0) dX10_praise_60 hi60 ?_
    refine z_if_ne F 76 dX10_praise_61 rfl (fun hc => ?_) (fun hc => ?_)
    · replace h := zif_f hc h
      refine z_iconst (y := (0 : Int32)) F dX10_praise_76 rfl ?_
      cases h
      exact z_reti F hr hk dX10_praise_77
    · replace h := zif_t hc h
      refine z_aload_n F dX10_praise_64 rfl 0 rfl ?_
      refine zg_10_35 F t0 wF_X10_85 dX10_praise_65 ?_
      refine z_bipush (y := (98 : Int32)) F dX10_praise_68 rfl ?_
      obtain ⟨hi70, h⟩ := zix_ex h
      refine z_iald F (zt_f tc_10_35 t0) dX10_praise_70 hi70 ?_
      refine z_bipush (y := (12 : Int32)) F dX10_praise_71 rfl ?_
      refine z_icmp_ne F 78 dX10_praise_73 rfl (fun hc => ?_) (fun hc => ?_)
      · replace h := zif_f hc h
        refine z_bipush (y := (62 : Int32)) F dX10_praise_78 rfl ?_
        refine z_iconst (y := (3 : Int32)) F dX10_praise_80 rfl ?_
        refine z_aload_n F dX10_praise_81 rfl 0 rfl ?_
        refine zg_10_35 F t0 wF_X10_85 dX10_praise_82 ?_
        refine z_bipush (y := (98 : Int32)) F dX10_praise_85 rfl ?_
        obtain ⟨hi87, h⟩ := zix_ex h
        refine z_iald F (zt_f tc_10_35 t0) dX10_praise_87 hi87 ?_
        refine z_imul F dX10_praise_88 ?_
        refine z_iadd F dX10_praise_89 ?_
        obtain ⟨y_3, ey_3, h⟩ := zlet_ex h
        refine z_topi ey_3 ?_
        refine z_istore_n F [(3, .int y_3), (0, zr G x0), (1, .int x1), (2, .int x2)] dX10_praise_90 rfl (Nat.le_of_ble_eq_true rfl) rfl ?_
        refine z_aload_n F dX10_praise_91 rfl 1 rfl ?_
        refine zg_10_35 F t0 wF_X10_85 dX10_praise_92 ?_
        refine z_iload_n F dX10_praise_95 rfl 0 rfl ?_
        refine z_aload_n F dX10_praise_96 rfl 1 rfl ?_
        refine zg_10_35 F t0 wF_X10_85 dX10_praise_97 ?_
        refine z_bipush (y := (99 : Int32)) F dX10_praise_100 rfl ?_
        obtain ⟨hi102, h⟩ := zix_ex h
        refine z_iald F (zt_f tc_10_35 t0) dX10_praise_102 hi102 ?_
        obtain ⟨hi103, h⟩ := zix_ex h
        refine z_iast F (zt_f tc_10_35 t0) dX10_praise_103 hi103 ?_
        obtain ⟨v_4, ev_4, h⟩ := zlet_ex h
        refine z_heap ev_4 ?_
        refine z_aload_n F dX10_praise_104 rfl 1 rfl ?_
        refine zg_10_35 F t0 wF_X10_85 dX10_praise_105 ?_
        refine z_iload_n F dX10_praise_108 rfl 0 rfl ?_
        refine z_iconst (y := (1 : Int32)) F dX10_praise_109 rfl ?_
        refine z_iadd F dX10_praise_110 ?_
        refine z_iload_n F dX10_praise_111 rfl 2 rfl ?_
        obtain ⟨hi112, h⟩ := zix_ex h
        refine z_iast F (zt_f tc_10_35 t0) dX10_praise_112 hi112 ?_
        obtain ⟨v_5, ev_5, h⟩ := zlet_ex h
        refine z_heap ev_5 ?_
        refine z_aload_n F dX10_praise_113 rfl 1 rfl ?_
        refine zg_10_35 F t0 wF_X10_85 dX10_praise_114 ?_
        refine z_iload_n F dX10_praise_117 rfl 0 rfl ?_
        refine z_iconst (y := (2 : Int32)) F dX10_praise_118 rfl ?_
        refine z_iadd F dX10_praise_119 ?_
        refine z_iload_n F dX10_praise_120 rfl 3 rfl ?_
        obtain ⟨hi121, h⟩ := zix_ex h
        refine z_iast F (zt_f tc_10_35 t0) dX10_praise_121 hi121 ?_
        obtain ⟨v_6, ev_6, h⟩ := zlet_ex h
        refine z_heap ev_6 ?_
        refine z_aload_n F dX10_praise_122 rfl 1 rfl ?_
        refine zg_10_35 F t0 wF_X10_85 dX10_praise_123 ?_
        refine z_bipush (y := (98 : Int32)) F dX10_praise_126 rfl ?_
        refine z_dup2 F dX10_praise_128 rfl rfl ?_
        obtain ⟨hi129, h⟩ := zix_ex h
        refine z_iald F (zt_f tc_10_35 t0) dX10_praise_129 hi129 ?_
        refine z_iconst (y := (1 : Int32)) F dX10_praise_130 rfl ?_
        refine z_iadd F dX10_praise_131 ?_
        obtain ⟨hi132, h⟩ := zix_ex h
        refine z_iast F (zt_f tc_10_35 t0) dX10_praise_132 hi132 ?_
        obtain ⟨v_7, ev_7, h⟩ := zlet_ex h
        refine z_heap ev_7 ?_
        refine z_aload_n F dX10_praise_133 rfl 1 rfl ?_
        obtain ⟨v_8, hq134, h⟩ := zbindv_ex h
        refine z_callVv F [] [] (kX10_settles x.2.1 G x0 t0 v_7 v_8 hq134) mI_X10_settles (c := 10) rfl t0 wM_X10_250 mi_X10_settles sl_X10_settles dX10_praise_134 rfl ⟨Nat.le_of_ble_eq_true rfl, Nat.le_of_ble_eq_true rfl⟩ rfl (Nat.le_of_ble_eq_true rfl) ⟨Nat.zero_le _, Nat.zero_le _⟩ ?_
        refine z_iconst (y := (1 : Int32)) F dX10_praise_137 rfl ?_
        cases h
        exact z_reti F hr hk dX10_praise_138
      · replace h := zif_t hc h
        refine z_iconst (y := (0 : Int32)) F dX10_praise_76 rfl ?_
        cases h
        exact z_reti F hr hk dX10_praise_77
  · replace h := zif_f hc h
    refine z_iconst (y := (0 : Int32)) F dX10_praise_51 rfl ?_
    cases h
    exact z_reti F hr hk dX10_praise_52

def fX10_praise_19  (x0 : Nat) (x1 : Int32) (x2 : Int32) (s0 : Nat) (s1 : Int32) (v : zV) : Option (Int32 × zV) :=
  zbind (fX10_bad s0 s1 (1 : Int32) (0 : Int32) v) fun r_2 v_1 =>
  if r_2 = (0 : Int32) then
    zbind (fX10_in x2 (1 : Int32) (99 : Int32) v_1) fun r_4 v_3 =>
    if r_4 = (0 : Int32) then
      fX10_praise_43  x0 x1 x2 x0 (1 : Int32) v_3
    else
      fX10_praise_43  x0 x1 x2 x0 (0 : Int32) v_3
  else
    some ((0 : Int32), v_1)
set_option maxRecDepth 4000 in
theorem jX10_praise_19 (x : zCx) (G : zG) (F : zF x G cX10_praise 4 RX10 3 123) (hr : x.2.2.2.2.2.2.2.2.1.sig.returnType = (Option.some FieldType.int)) (hk : x.2.2.2.2.2.2.2.2.1.locks = false) (r : Int32) (w : zV)  : ∀ (x0 : Nat) (t0 : zty G x0 1 10) (x1 : Int32) (x2 : Int32) (s0 : Nat) (ts0 : zty G s0 1 10) (s1 : Int32) (v : zV), fX10_praise_19 x0 x1 x2 s0 s1 v = some (r, w) → zJ x G 4 (zQ x G (some (.int r)) w 0 0) 0 0 19 [(0, zr G x0), (1, .int x1), (2, .int x2)] [.int s1, zr G s0] v := by
  intro x0 t0 x1 x2 s0 ts0 s1 v h
  unfold fX10_praise_19 at h
  refine z_iconst (y := (1 : Int32)) F dX10_praise_19 rfl ?_
  refine z_iconst (y := (0 : Int32)) F dX10_praise_20 rfl ?_
  obtain ⟨r_2, v_1, hq21, h⟩ := zbind_ex h
  refine z_callVi F [.int s1, .int (1 : Int32), .int (0 : Int32)] [] (kX10_bad x.2.1 G s0 ts0 s1 (1 : Int32) (0 : Int32) v r_2 v_1 hq21) mI_X10_bad (c := 10) rfl ts0 wM_X10_220 mi_X10_bad sl_X10_bad dX10_praise_21 rfl ⟨Nat.le_of_ble_eq_true rfl, Nat.le_of_ble_eq_true rfl⟩ rfl (Nat.le_of_ble_eq_true rfl) ⟨Nat.zero_le _, Nat.zero_le _⟩ ?_
  refine z_if_ne F 51 dX10_praise_24 rfl (fun hc => ?_) (fun hc => ?_)
  · replace h := zif_f hc h
    refine z_iconst (y := (0 : Int32)) F dX10_praise_51 rfl ?_
    cases h
    exact z_reti F hr hk dX10_praise_52
  · replace h := zif_t hc h
    refine z_aload_n F dX10_praise_27 rfl 0 rfl ?_
    refine z_iload_n F dX10_praise_28 rfl 2 rfl ?_
    refine z_iconst (y := (1 : Int32)) F dX10_praise_29 rfl ?_
    refine z_bipush (y := (99 : Int32)) F dX10_praise_30 rfl ?_
    obtain ⟨r_4, v_3, hq32, h⟩ := zbind_ex h
    refine z_callSi F [.int x2, .int (1 : Int32), .int (99 : Int32)] [zr G x0] (kX10_in x.2.1 G x2 (1 : Int32) (99 : Int32) v_1 r_4 v_3 hq32) mI_X10_in wM_X10_168 ms_X10_in dX10_praise_32 rfl ⟨Nat.le_of_ble_eq_true rfl, Nat.le_of_ble_eq_true rfl⟩ rfl (Nat.le_of_ble_eq_true rfl) ⟨Nat.zero_le _, Nat.zero_le _⟩ ?_
    refine z_if_ne F 42 dX10_praise_35 rfl (fun hc => ?_) (fun hc => ?_)
    · replace h := zif_f hc h
      refine z_iconst (y := (0 : Int32)) F dX10_praise_42 rfl ?_
      refine z_ls [(0, zr G x0), (1, .int x1), (2, .int x2)] [0, 1, 2] rfl ?_
      exact jX10_praise_43 x G F hr hk r w   x0 t0 x1 x2 x0 t0 (0 : Int32) v_3 h
    · replace h := zif_t hc h
      refine z_iconst (y := (1 : Int32)) F dX10_praise_38 rfl ?_
      refine z_goto F 43 dX10_praise_39 rfl ?_
      refine z_ls [(0, zr G x0), (1, .int x1), (2, .int x2)] [0, 1, 2] rfl ?_
      exact jX10_praise_43 x G F hr hk r w   x0 t0 x1 x2 x0 t0 (1 : Int32) v_3 h

def fX10_praise (x0 : Nat) (x1 : Int32) (x2 : Int32) (v : zV) : Option (Int32 × zV) :=
  zlet (zup v x0 0 (0 : Int32)) fun v_1 =>
  zbind (fX10_isMan x0 x1 v_1) fun r_3 v_2 =>
  if r_3 = (0 : Int32) then
    fX10_praise_19  x0 x1 x2 x0 (1 : Int32) v_2
  else
    fX10_praise_19  x0 x1 x2 x0 (0 : Int32) v_2
set_option maxRecDepth 4000 in
theorem kX10_praise (l : Launch) (G : zG) (x0 : Nat) (t0 : zty G x0 1 10) (x1 : Int32) (x2 : Int32) (v : zV) (r : Int32) (w : zV) (h : fX10_praise x0 x1 x2 v = some (r, w)) : zMet l yX10_praise cX10_praise 4 (Option.some FieldType.int) 3 123 0 0 [zr G x0, .int x1, .int x2] G v (some (.int r)) w := by
  refine zM_of (own := RX10) (by decide) rfl (Nat.le_of_ble_eq_true rfl) (fun x hl F hr hk hcs => ?_)
  subst hl
  refine z_ls [(0, zr G x0), (1, .int x1), (2, .int x2)] [0, 1, 2] rfl ?_
  unfold fX10_praise at h
  refine z_aload_n F dX10_praise_0 rfl 0 rfl ?_
  refine z_iconst (y := (0 : Int32)) F dX10_praise_1 rfl ?_
  refine zp_10_0 F t0 wF_X10_134 dX10_praise_2 ?_
  obtain ⟨v_1, ev_1, h⟩ := zlet_ex h
  refine z_heap ev_1 ?_
  refine z_aload_n F dX10_praise_5 rfl 0 rfl ?_
  refine z_aload_n F dX10_praise_6 rfl 0 rfl ?_
  refine z_iload_n F dX10_praise_7 rfl 1 rfl ?_
  obtain ⟨r_3, v_2, hq8, h⟩ := zbind_ex h
  refine z_callVi F [.int x1] [zr G x0] (kX10_isMan x.2.1 G x0 t0 x1 v_1 r_3 v_2 hq8) mI_X10_isMan (c := 10) rfl t0 wM_X10_298 mi_X10_isMan sl_X10_isMan dX10_praise_8 rfl ⟨Nat.le_of_ble_eq_true rfl, Nat.le_of_ble_eq_true rfl⟩ rfl (Nat.le_of_ble_eq_true rfl) ⟨Nat.zero_le _, Nat.zero_le _⟩ ?_
  refine z_if_ne F 18 dX10_praise_11 rfl (fun hc => ?_) (fun hc => ?_)
  · replace h := zif_f hc h
    refine z_iconst (y := (0 : Int32)) F dX10_praise_18 rfl ?_
    refine z_ls [(0, zr G x0), (1, .int x1), (2, .int x2)] [0, 1, 2] rfl ?_
    exact jX10_praise_19 x G F hr hk r w   x0 t0 x1 x2 x0 t0 (0 : Int32) v_2 h
  · replace h := zif_t hc h
    refine z_iconst (y := (1 : Int32)) F dX10_praise_14 rfl ?_
    refine z_goto F 19 dX10_praise_15 rfl ?_
    refine z_ls [(0, zr G x0), (1, .int x1), (2, .int x2)] [0, 1, 2] rfl ?_
    exact jX10_praise_19 x G F hr hk r w   x0 t0 x1 x2 x0 t0 (1 : Int32) v_2 h

theorem dX10_ahead_0 : decode cX10_ahead 0 = .ok (.aload_n 0, 1) := by decide +kernel
theorem dX10_ahead_1 : decode cX10_ahead 1 = .ok (.iconst 0, 1) := by decide +kernel
theorem dX10_ahead_2 : decode cX10_ahead 2 = .ok (.putfield 134, 3) := by decide +kernel
theorem dX10_ahead_5 : decode cX10_ahead 5 = .ok (.aload_n 0, 1) := by decide +kernel
theorem dX10_ahead_6 : decode cX10_ahead 6 = .ok (.iload_n 1, 1) := by decide +kernel
theorem dX10_ahead_7 : decode cX10_ahead 7 = .ok (.iconst 0, 1) := by decide +kernel
theorem dX10_ahead_8 : decode cX10_ahead 8 = .ok (.bipush 60, 2) := by decide +kernel
theorem dX10_ahead_10 : decode cX10_ahead 10 = .ok (.invokestatic 168, 3) := by decide +kernel
theorem dX10_ahead_13 : decode cX10_ahead 13 = .ok (.ifCond .eq 12, 3) := by decide +kernel
theorem dX10_ahead_16 : decode cX10_ahead 16 = .ok (.iload_n 2, 1) := by decide +kernel
theorem dX10_ahead_17 : decode cX10_ahead 17 = .ok (.iconst 0, 1) := by decide +kernel
theorem dX10_ahead_18 : decode cX10_ahead 18 = .ok (.iconst 2, 1) := by decide +kernel
theorem dX10_ahead_19 : decode cX10_ahead 19 = .ok (.invokestatic 168, 3) := by decide +kernel
theorem dX10_ahead_22 : decode cX10_ahead 22 = .ok (.ifCond .ne 7, 3) := by decide +kernel
theorem dX10_ahead_25 : decode cX10_ahead 25 = .ok (.iconst 1, 1) := by decide +kernel
theorem dX10_ahead_26 : decode cX10_ahead 26 = .ok (.goto 4, 3) := by decide +kernel
theorem dX10_ahead_29 : decode cX10_ahead 29 = .ok (.iconst 0, 1) := by decide +kernel
theorem dX10_ahead_30 : decode cX10_ahead 30 = .ok (.iconst 1, 1) := by decide +kernel
theorem dX10_ahead_31 : decode cX10_ahead 31 = .ok (.iconst 1, 1) := by decide +kernel
theorem dX10_ahead_32 : decode cX10_ahead 32 = .ok (.invokevirtual 220, 3) := by decide +kernel
theorem dX10_ahead_35 : decode cX10_ahead 35 = .ok (.ifCond .eq 5, 3) := by decide +kernel
theorem dX10_ahead_38 : decode cX10_ahead 38 = .ok (.iconst 0, 1) := by decide +kernel
theorem dX10_ahead_39 : decode cX10_ahead 39 = .ok (.ireturn, 1) := by decide +kernel
theorem dX10_ahead_40 : decode cX10_ahead 40 = .ok (.aload_n 0, 1) := by decide +kernel
theorem dX10_ahead_41 : decode cX10_ahead 41 = .ok (.getfield 85, 3) := by decide +kernel
theorem dX10_ahead_44 : decode cX10_ahead 44 = .ok (.aload_n 0, 1) := by decide +kernel
theorem dX10_ahead_45 : decode cX10_ahead 45 = .ok (.getfield 94, 3) := by decide +kernel
theorem dX10_ahead_48 : decode cX10_ahead 48 = .ok (.invokestatic 237, 3) := by decide +kernel
theorem dX10_ahead_51 : decode cX10_ahead 51 = .ok (.iconst 0, 1) := by decide +kernel
theorem dX10_ahead_52 : decode cX10_ahead 52 = .ok (.istore_n 3, 1) := by decide +kernel
theorem dX10_ahead_53 : decode cX10_ahead 53 = .ok (.iload_n 3, 1) := by decide +kernel
theorem dX10_ahead_54 : decode cX10_ahead 54 = .ok (.iload_n 1, 1) := by decide +kernel
theorem dX10_ahead_55 : decode cX10_ahead 55 = .ok (.if_icmp .ge 17, 3) := by decide +kernel
theorem dX10_ahead_58 : decode cX10_ahead 58 = .ok (.aload_n 0, 1) := by decide +kernel
theorem dX10_ahead_59 : decode cX10_ahead 59 = .ok (.aload_n 0, 1) := by decide +kernel
theorem dX10_ahead_60 : decode cX10_ahead 60 = .ok (.getfield 94, 3) := by decide +kernel
theorem dX10_ahead_63 : decode cX10_ahead 63 = .ok (.invokevirtual 359, 3) := by decide +kernel
theorem dX10_ahead_66 : decode cX10_ahead 66 = .ok (.iinc 3 1, 3) := by decide +kernel
theorem dX10_ahead_69 : decode cX10_ahead 69 = .ok (.goto (-16), 3) := by decide +kernel
theorem dX10_ahead_72 : decode cX10_ahead 72 = .ok (.iload_n 2, 1) := by decide +kernel
theorem dX10_ahead_73 : decode cX10_ahead 73 = .ok (.ifCond .ne 13, 3) := by decide +kernel
theorem dX10_ahead_76 : decode cX10_ahead 76 = .ok (.aload_n 0, 1) := by decide +kernel
theorem dX10_ahead_77 : decode cX10_ahead 77 = .ok (.getfield 94, 3) := by decide +kernel
theorem dX10_ahead_80 : decode cX10_ahead 80 = .ok (.invokestatic 313, 3) := by decide +kernel
theorem dX10_ahead_83 : decode cX10_ahead 83 = .ok (.goto 33, 3) := by decide +kernel
theorem dX10_ahead_86 : decode cX10_ahead 86 = .ok (.iload_n 2, 1) := by decide +kernel
theorem dX10_ahead_87 : decode cX10_ahead 87 = .ok (.iconst 1, 1) := by decide +kernel
theorem dX10_ahead_88 : decode cX10_ahead 88 = .ok (.if_icmp .ne 13, 3) := by decide +kernel
theorem dX10_ahead_91 : decode cX10_ahead 91 = .ok (.aload_n 0, 1) := by decide +kernel
theorem dX10_ahead_92 : decode cX10_ahead 92 = .ok (.getfield 94, 3) := by decide +kernel
theorem dX10_ahead_95 : decode cX10_ahead 95 = .ok (.bipush 61, 2) := by decide +kernel
theorem dX10_ahead_97 : decode cX10_ahead 97 = .ok (.iaload, 1) := by decide +kernel
theorem dX10_ahead_98 : decode cX10_ahead 98 = .ok (.goto 18, 3) := by decide +kernel
theorem dX10_ahead_101 : decode cX10_ahead 101 = .ok (.aload_n 0, 1) := by decide +kernel
theorem dX10_ahead_102 : decode cX10_ahead 102 = .ok (.getfield 94, 3) := by decide +kernel
theorem dX10_ahead_105 : decode cX10_ahead 105 = .ok (.bipush 100, 2) := by decide +kernel
theorem dX10_ahead_107 : decode cX10_ahead 107 = .ok (.iaload, 1) := by decide +kernel
theorem dX10_ahead_108 : decode cX10_ahead 108 = .ok (.aload_n 0, 1) := by decide +kernel
theorem dX10_ahead_109 : decode cX10_ahead 109 = .ok (.getfield 85, 3) := by decide +kernel
theorem dX10_ahead_112 : decode cX10_ahead 112 = .ok (.bipush 100, 2) := by decide +kernel
theorem dX10_ahead_114 : decode cX10_ahead 114 = .ok (.iaload, 1) := by decide +kernel
theorem dX10_ahead_115 : decode cX10_ahead 115 = .ok (.isub, 1) := by decide +kernel
theorem dX10_ahead_116 : decode cX10_ahead 116 = .ok (.ireturn, 1) := by decide +kernel
def fX10_ahead_72  (x0 : Nat) (x2 : Int32) (v : zV) : Option (Int32 × zV) :=
  if x2 = (0 : Int32) then
    zbind (fX10_lastOf (zrf x0 38) v) fun r_2 v_1 =>
    some (r_2, v_1)
  else
    if x2 = (1 : Int32) then
      zix (61 : Int32) (zlen (zrf x0 38)) <|
      some (v (zrf x0 38) ((61 : Int32)).toNatClampNeg, v)
    else
      zix (100 : Int32) (zlen (zrf x0 38)) <|
      zix (100 : Int32) (zlen (zrf x0 35)) <|
      some ((v (zrf x0 38) ((100 : Int32)).toNatClampNeg) - (v (zrf x0 35) ((100 : Int32)).toNatClampNeg), v)
set_option maxRecDepth 4000 in
theorem jX10_ahead_72 (x : zCx) (G : zG) (F : zF x G cX10_ahead 4 RX10 7 215) (hr : x.2.2.2.2.2.2.2.2.1.sig.returnType = (Option.some FieldType.int)) (hk : x.2.2.2.2.2.2.2.2.1.locks = false) (r : Int32) (w : zV)  : ∀ (x0 : Nat) (t0 : zty G x0 1 10) (x2 : Int32) (v : zV), fX10_ahead_72 x0 x2 v = some (r, w) → zJ x G 4 (zQ x G (some (.int r)) w 0 0) 0 0 72 [(0, zr G x0), (2, .int x2)] [] v := by
  intro x0 t0 x2 v h
  unfold fX10_ahead_72 at h
  refine z_iload_n F dX10_ahead_72 rfl 1 rfl ?_
  refine z_if_ne F 86 dX10_ahead_73 rfl (fun hc => ?_) (fun hc => ?_)
  · replace h := zif_f hc h
    refine z_iload_n F dX10_ahead_86 rfl 1 rfl ?_
    refine z_iconst (y := (1 : Int32)) F dX10_ahead_87 rfl ?_
    refine z_icmp_ne F 101 dX10_ahead_88 rfl (fun hc => ?_) (fun hc => ?_)
    · replace h := zif_f hc h
      refine z_aload_n F dX10_ahead_101 rfl 0 rfl ?_
      refine zg_10_38 F t0 wF_X10_94 dX10_ahead_102 ?_
      refine z_bipush (y := (100 : Int32)) F dX10_ahead_105 rfl ?_
      obtain ⟨hi107, h⟩ := zix_ex h
      refine z_iald F (zt_f tc_10_38 t0) dX10_ahead_107 hi107 ?_
      refine z_aload_n F dX10_ahead_108 rfl 0 rfl ?_
      refine zg_10_35 F t0 wF_X10_85 dX10_ahead_109 ?_
      refine z_bipush (y := (100 : Int32)) F dX10_ahead_112 rfl ?_
      obtain ⟨hi114, h⟩ := zix_ex h
      refine z_iald F (zt_f tc_10_35 t0) dX10_ahead_114 hi114 ?_
      refine z_isub F dX10_ahead_115 ?_
      cases h
      exact z_reti F hr hk dX10_ahead_116
    · replace h := zif_t hc h
      refine z_aload_n F dX10_ahead_91 rfl 0 rfl ?_
      refine zg_10_38 F t0 wF_X10_94 dX10_ahead_92 ?_
      refine z_bipush (y := (61 : Int32)) F dX10_ahead_95 rfl ?_
      obtain ⟨hi97, h⟩ := zix_ex h
      refine z_iald F (zt_f tc_10_38 t0) dX10_ahead_97 hi97 ?_
      refine z_goto F 116 dX10_ahead_98 rfl ?_
      cases h
      exact z_reti F hr hk dX10_ahead_116
  · replace h := zif_t hc h
    refine z_aload_n F dX10_ahead_76 rfl 0 rfl ?_
    refine zg_10_38 F t0 wF_X10_94 dX10_ahead_77 ?_
    obtain ⟨r_2, v_1, hq80, h⟩ := zbind_ex h
    refine z_callSi F [zr G (zrf x0 38)] [] (kX10_lastOf x.2.1 G (zrf x0 38) (zt_f tc_10_38 t0) v r_2 v_1 hq80) mI_X10_lastOf wM_X10_313 ms_X10_lastOf dX10_ahead_80 rfl ⟨Nat.le_of_ble_eq_true rfl, Nat.le_of_ble_eq_true rfl⟩ rfl (Nat.le_of_ble_eq_true rfl) ⟨Nat.zero_le _, Nat.zero_le _⟩ ?_
    refine z_goto F 116 dX10_ahead_83 rfl ?_
    cases h
    exact z_reti F hr hk dX10_ahead_116

def fX10_ahead_53  : Nat → Nat → Int32 → Int32 → Int32 → zV → Option (Int32 × zV)
  | 0 => fun _ _ _ _ _ => none
  | n + 1 => fun x0 x1 x2 x3 v =>
    if x1 ≤ x3 then
      fX10_ahead_72  x0 x2 v
    else
      zbindv (fX10_goes x0 (zrf x0 38) v) fun v_1 =>
      (fX10_ahead_53 n) x0 x1 x2 (x3 + (1 : Int32)) v_1
set_option maxRecDepth 4000 in
theorem jX10_ahead_53 (x : zCx) (G : zG) (F : zF x G cX10_ahead 4 RX10 7 215) (hr : x.2.2.2.2.2.2.2.2.1.sig.returnType = (Option.some FieldType.int)) (hk : x.2.2.2.2.2.2.2.2.1.locks = false) (r : Int32) (w : zV)  : ∀ (n : Nat) (x0 : Nat) (t0 : zty G x0 1 10) (x1 : Int32) (x2 : Int32) (x3 : Int32) (v : zV), fX10_ahead_53 n x0 x1 x2 x3 v = some (r, w) → zJ x G 4 (zQ x G (some (.int r)) w 0 0) 0 0 53 [(0, zr G x0), (1, .int x1), (2, .int x2), (3, .int x3)] [] v := by
  intro n
  induction n with
  | zero => intro x0 t0 x1 x2 x3 v h; exact absurd h (by intro q; cases q)
  | succ n ih =>
    intro x0 t0 x1 x2 x3 v h
    rw [fX10_ahead_53] at h
    dsimp only at h
    refine z_iload_n F dX10_ahead_53 rfl 3 rfl ?_
    refine z_iload_n F dX10_ahead_54 rfl 1 rfl ?_
    refine z_icmp_ge F 72 dX10_ahead_55 rfl (fun hc => ?_) (fun hc => ?_)
    · replace h := zif_t hc h
      refine z_ls [(0, zr G x0), (2, .int x2)] [0, 2] rfl ?_
      exact jX10_ahead_72 x G F hr hk r w   x0 t0 x2 v h
    · replace h := zif_f hc h
      refine z_aload_n F dX10_ahead_58 rfl 0 rfl ?_
      refine z_aload_n F dX10_ahead_59 rfl 0 rfl ?_
      refine zg_10_38 F t0 wF_X10_94 dX10_ahead_60 ?_
      obtain ⟨v_1, hq63, h⟩ := zbindv_ex h
      refine z_callVv F [zr G (zrf x0 38)] [] (kX10_goes x.2.1 G x0 t0 (zrf x0 38) (zt_f tc_10_38 t0) v v_1 hq63) mI_X10_goes (c := 10) rfl t0 wM_X10_359 mi_X10_goes sl_X10_goes dX10_ahead_63 rfl ⟨Nat.le_of_ble_eq_true rfl, Nat.le_of_ble_eq_true rfl⟩ rfl (Nat.le_of_ble_eq_true rfl) ⟨Nat.zero_le _, Nat.zero_le _⟩ ?_
      refine z_iinc F [(3, .int (x3 + (1 : Int32))), (0, zr G x0), (1, .int x1), (2, .int x2)] dX10_ahead_66 3 rfl rfl (Nat.le_of_ble_eq_true rfl) rfl ?_
      refine z_goto F 53 dX10_ahead_69 rfl ?_
      refine z_ls [(0, zr G x0), (1, .int x1), (2, .int x2), (3, .int (x3 + (1 : Int32)))] [1, 2, 3, 0] rfl ?_
      exact ih x0 t0 x1 x2 (x3 + (1 : Int32)) v_1 h

def fX10_ahead_30  (x0 : Nat) (x1 : Int32) (x2 : Int32) (s0 : Nat) (s1 : Int32) (v : zV) : Option (Int32 × zV) :=
  zbind (fX10_bad s0 s1 (1 : Int32) (1 : Int32) v) fun r_2 v_1 =>
  if r_2 = (0 : Int32) then
    zbindv (fX10_copies (zrf x0 35) (zrf x0 38) v_1) fun v_3 =>
    fX10_ahead_53  zFU x0 x1 x2 (0 : Int32) v_3
  else
    some ((0 : Int32), v_1)
set_option maxRecDepth 4000 in
theorem jX10_ahead_30 (x : zCx) (G : zG) (F : zF x G cX10_ahead 4 RX10 7 215) (hr : x.2.2.2.2.2.2.2.2.1.sig.returnType = (Option.some FieldType.int)) (hk : x.2.2.2.2.2.2.2.2.1.locks = false) (r : Int32) (w : zV)  : ∀ (x0 : Nat) (t0 : zty G x0 1 10) (x1 : Int32) (x2 : Int32) (s0 : Nat) (ts0 : zty G s0 1 10) (s1 : Int32) (v : zV), fX10_ahead_30 x0 x1 x2 s0 s1 v = some (r, w) → zJ x G 4 (zQ x G (some (.int r)) w 0 0) 0 0 30 [(0, zr G x0), (1, .int x1), (2, .int x2)] [.int s1, zr G s0] v := by
  intro x0 t0 x1 x2 s0 ts0 s1 v h
  unfold fX10_ahead_30 at h
  refine z_iconst (y := (1 : Int32)) F dX10_ahead_30 rfl ?_
  refine z_iconst (y := (1 : Int32)) F dX10_ahead_31 rfl ?_
  obtain ⟨r_2, v_1, hq32, h⟩ := zbind_ex h
  refine z_callVi F [.int s1, .int (1 : Int32), .int (1 : Int32)] [] (kX10_bad x.2.1 G s0 ts0 s1 (1 : Int32) (1 : Int32) v r_2 v_1 hq32) mI_X10_bad (c := 10) rfl ts0 wM_X10_220 mi_X10_bad sl_X10_bad dX10_ahead_32 rfl ⟨Nat.le_of_ble_eq_true rfl, Nat.le_of_ble_eq_true rfl⟩ rfl (Nat.le_of_ble_eq_true rfl) ⟨Nat.zero_le _, Nat.zero_le _⟩ ?_
  refine z_if_eq F 40 dX10_ahead_35 rfl (fun hc => ?_) (fun hc => ?_)
  · replace h := zif_t hc h
    refine z_aload_n F dX10_ahead_40 rfl 0 rfl ?_
    refine zg_10_35 F t0 wF_X10_85 dX10_ahead_41 ?_
    refine z_aload_n F dX10_ahead_44 rfl 0 rfl ?_
    refine zg_10_38 F t0 wF_X10_94 dX10_ahead_45 ?_
    obtain ⟨v_3, hq48, h⟩ := zbindv_ex h
    refine z_callSv F [zr G (zrf x0 35), zr G (zrf x0 38)] [] (kX10_copies x.2.1 G (zrf x0 35) (zt_f tc_10_35 t0) (zrf x0 38) (zt_f tc_10_38 t0) v_1 v_3 hq48) mI_X10_copies wM_X10_237 ms_X10_copies dX10_ahead_48 rfl ⟨Nat.le_of_ble_eq_true rfl, Nat.le_of_ble_eq_true rfl⟩ rfl (Nat.le_of_ble_eq_true rfl) ⟨Nat.zero_le _, Nat.zero_le _⟩ ?_
    refine z_iconst (y := (0 : Int32)) F dX10_ahead_51 rfl ?_
    refine z_istore_n F [(3, .int (0 : Int32)), (0, zr G x0), (1, .int x1), (2, .int x2)] dX10_ahead_52 rfl (Nat.le_of_ble_eq_true rfl) rfl ?_
    refine z_ls [(0, zr G x0), (1, .int x1), (2, .int x2), (3, .int (0 : Int32))] [1, 2, 3, 0] rfl ?_
    exact jX10_ahead_53 x G F hr hk r w   zFU x0 t0 x1 x2 (0 : Int32) v_3 h
  · replace h := zif_f hc h
    refine z_iconst (y := (0 : Int32)) F dX10_ahead_38 rfl ?_
    cases h
    exact z_reti F hr hk dX10_ahead_39

def fX10_ahead (x0 : Nat) (x1 : Int32) (x2 : Int32) (v : zV) : Option (Int32 × zV) :=
  zlet (zup v x0 0 (0 : Int32)) fun v_1 =>
  zbind (fX10_in x1 (0 : Int32) (60 : Int32) v_1) fun r_3 v_2 =>
  if r_3 = (0 : Int32) then
    fX10_ahead_30  x0 x1 x2 x0 (1 : Int32) v_2
  else
    zbind (fX10_in x2 (0 : Int32) (2 : Int32) v_2) fun r_5 v_4 =>
    if r_5 = (0 : Int32) then
      fX10_ahead_30  x0 x1 x2 x0 (1 : Int32) v_4
    else
      fX10_ahead_30  x0 x1 x2 x0 (0 : Int32) v_4
set_option maxRecDepth 4000 in
theorem kX10_ahead (l : Launch) (G : zG) (x0 : Nat) (t0 : zty G x0 1 10) (x1 : Int32) (x2 : Int32) (v : zV) (r : Int32) (w : zV) (h : fX10_ahead x0 x1 x2 v = some (r, w)) : zMet l yX10_ahead cX10_ahead 4 (Option.some FieldType.int) 7 215 0 0 [zr G x0, .int x1, .int x2] G v (some (.int r)) w := by
  refine zM_of (own := RX10) (by decide) rfl (Nat.le_of_ble_eq_true rfl) (fun x hl F hr hk hcs => ?_)
  subst hl
  refine z_ls [(0, zr G x0), (1, .int x1), (2, .int x2)] [0, 1, 2] rfl ?_
  unfold fX10_ahead at h
  refine z_aload_n F dX10_ahead_0 rfl 0 rfl ?_
  refine z_iconst (y := (0 : Int32)) F dX10_ahead_1 rfl ?_
  refine zp_10_0 F t0 wF_X10_134 dX10_ahead_2 ?_
  obtain ⟨v_1, ev_1, h⟩ := zlet_ex h
  refine z_heap ev_1 ?_
  refine z_aload_n F dX10_ahead_5 rfl 0 rfl ?_
  refine z_iload_n F dX10_ahead_6 rfl 1 rfl ?_
  refine z_iconst (y := (0 : Int32)) F dX10_ahead_7 rfl ?_
  refine z_bipush (y := (60 : Int32)) F dX10_ahead_8 rfl ?_
  obtain ⟨r_3, v_2, hq10, h⟩ := zbind_ex h
  refine z_callSi F [.int x1, .int (0 : Int32), .int (60 : Int32)] [zr G x0] (kX10_in x.2.1 G x1 (0 : Int32) (60 : Int32) v_1 r_3 v_2 hq10) mI_X10_in wM_X10_168 ms_X10_in dX10_ahead_10 rfl ⟨Nat.le_of_ble_eq_true rfl, Nat.le_of_ble_eq_true rfl⟩ rfl (Nat.le_of_ble_eq_true rfl) ⟨Nat.zero_le _, Nat.zero_le _⟩ ?_
  refine z_if_eq F 25 dX10_ahead_13 rfl (fun hc => ?_) (fun hc => ?_)
  · replace h := zif_t hc h
    refine z_iconst (y := (1 : Int32)) F dX10_ahead_25 rfl ?_
    refine z_goto F 30 dX10_ahead_26 rfl ?_
    refine z_ls [(0, zr G x0), (1, .int x1), (2, .int x2)] [0, 1, 2] rfl ?_
    exact jX10_ahead_30 x G F hr hk r w   x0 t0 x1 x2 x0 t0 (1 : Int32) v_2 h
  · replace h := zif_f hc h
    refine z_iload_n F dX10_ahead_16 rfl 2 rfl ?_
    refine z_iconst (y := (0 : Int32)) F dX10_ahead_17 rfl ?_
    refine z_iconst (y := (2 : Int32)) F dX10_ahead_18 rfl ?_
    obtain ⟨r_5, v_4, hq19, h⟩ := zbind_ex h
    refine z_callSi F [.int x2, .int (0 : Int32), .int (2 : Int32)] [zr G x0] (kX10_in x.2.1 G x2 (0 : Int32) (2 : Int32) v_2 r_5 v_4 hq19) mI_X10_in wM_X10_168 ms_X10_in dX10_ahead_19 rfl ⟨Nat.le_of_ble_eq_true rfl, Nat.le_of_ble_eq_true rfl⟩ rfl (Nat.le_of_ble_eq_true rfl) ⟨Nat.zero_le _, Nat.zero_le _⟩ ?_
    refine z_if_ne F 29 dX10_ahead_22 rfl (fun hc => ?_) (fun hc => ?_)
    · replace h := zif_f hc h
      refine z_iconst (y := (0 : Int32)) F dX10_ahead_29 rfl ?_
      refine z_ls [(0, zr G x0), (1, .int x1), (2, .int x2)] [0, 1, 2] rfl ?_
      exact jX10_ahead_30 x G F hr hk r w   x0 t0 x1 x2 x0 t0 (0 : Int32) v_4 h
    · replace h := zif_t hc h
      refine z_iconst (y := (1 : Int32)) F dX10_ahead_25 rfl ?_
      refine z_goto F 30 dX10_ahead_26 rfl ?_
      refine z_ls [(0, zr G x0), (1, .int x1), (2, .int x2)] [0, 1, 2] rfl ?_
      exact jX10_ahead_30 x G F hr hk r w   x0 t0 x1 x2 x0 t0 (1 : Int32) v_4 h

theorem dX10_whenOf_0 : decode cX10_whenOf 0 = .ok (.iconst 0, 1) := by decide +kernel
theorem dX10_whenOf_1 : decode cX10_whenOf 1 = .ok (.istore_n 3, 1) := by decide +kernel
theorem dX10_whenOf_2 : decode cX10_whenOf 2 = .ok (.iload_n 3, 1) := by decide +kernel
theorem dX10_whenOf_3 : decode cX10_whenOf 3 = .ok (.bipush 60, 2) := by decide +kernel
theorem dX10_whenOf_5 : decode cX10_whenOf 5 = .ok (.if_icmp .ge 31, 3) := by decide +kernel
theorem dX10_whenOf_8 : decode cX10_whenOf 8 = .ok (.aload_n 1, 1) := by decide +kernel
theorem dX10_whenOf_9 : decode cX10_whenOf 9 = .ok (.bipush 99, 2) := by decide +kernel
theorem dX10_whenOf_11 : decode cX10_whenOf 11 = .ok (.iaload, 1) := by decide +kernel
theorem dX10_whenOf_12 : decode cX10_whenOf 12 = .ok (.istore 4, 2) := by decide +kernel
theorem dX10_whenOf_14 : decode cX10_whenOf 14 = .ok (.aload_n 0, 1) := by decide +kernel
theorem dX10_whenOf_15 : decode cX10_whenOf 15 = .ok (.aload_n 1, 1) := by decide +kernel
theorem dX10_whenOf_16 : decode cX10_whenOf 16 = .ok (.invokevirtual 359, 3) := by decide +kernel
theorem dX10_whenOf_19 : decode cX10_whenOf 19 = .ok (.aload_n 0, 1) := by decide +kernel
theorem dX10_whenOf_20 : decode cX10_whenOf 20 = .ok (.getfield 356, 3) := by decide +kernel
theorem dX10_whenOf_23 : decode cX10_whenOf 23 = .ok (.iload_n 2, 1) := by decide +kernel
theorem dX10_whenOf_24 : decode cX10_whenOf 24 = .ok (.if_icmp .ne 6, 3) := by decide +kernel
theorem dX10_whenOf_27 : decode cX10_whenOf 27 = .ok (.iload 4, 2) := by decide +kernel
theorem dX10_whenOf_29 : decode cX10_whenOf 29 = .ok (.ireturn, 1) := by decide +kernel
theorem dX10_whenOf_30 : decode cX10_whenOf 30 = .ok (.iinc 3 1, 3) := by decide +kernel
theorem dX10_whenOf_33 : decode cX10_whenOf 33 = .ok (.goto (-31), 3) := by decide +kernel
theorem dX10_whenOf_36 : decode cX10_whenOf 36 = .ok (.iconst (-1), 1) := by decide +kernel
theorem dX10_whenOf_37 : decode cX10_whenOf 37 = .ok (.ireturn, 1) := by decide +kernel
def fX10_whenOf_2  : Nat → Nat → Nat → Int32 → Int32 → zV → Option (Int32 × zV)
  | 0 => fun _ _ _ _ _ => none
  | n + 1 => fun x0 x1 x2 x3 v =>
    if (60 : Int32) ≤ x3 then
      some ((-1 : Int32), v)
    else
      zix (99 : Int32) (zlen x1) <|
      zbindv (fX10_goes x0 x1 v) fun v_1 =>
      if (v_1 x0 50) = x2 then
        some (v x1 ((99 : Int32)).toNatClampNeg, v_1)
      else
        (fX10_whenOf_2 n) x0 x1 x2 (x3 + (1 : Int32)) v_1
set_option maxRecDepth 4000 in
theorem jX10_whenOf_2 (x : zCx) (G : zG) (F : zF x G cX10_whenOf 5 RX10 7 215) (hr : x.2.2.2.2.2.2.2.2.1.sig.returnType = (Option.some FieldType.int)) (hk : x.2.2.2.2.2.2.2.2.1.locks = false) (r : Int32) (w : zV)  : ∀ (n : Nat) (x0 : Nat) (t0 : zty G x0 1 10) (x1 : Nat) (t1 : zty G x1 2 0) (x2 : Int32) (x3 : Int32) (v : zV), fX10_whenOf_2 n x0 x1 x2 x3 v = some (r, w) → zJ x G 5 (zQ x G (some (.int r)) w 0 0) 0 0 2 [(0, zr G x0), (1, zr G x1), (2, .int x2), (3, .int x3)] [] v := by
  intro n
  induction n with
  | zero => intro x0 t0 x1 t1 x2 x3 v h; exact absurd h (by intro q; cases q)
  | succ n ih =>
    intro x0 t0 x1 t1 x2 x3 v h
    rw [fX10_whenOf_2] at h
    dsimp only at h
    refine z_iload_n F dX10_whenOf_2 rfl 3 rfl ?_
    refine z_bipush (y := (60 : Int32)) F dX10_whenOf_3 rfl ?_
    refine z_icmp_ge F 36 dX10_whenOf_5 rfl (fun hc => ?_) (fun hc => ?_)
    · replace h := zif_t hc h
      refine z_iconst (y := (-1 : Int32)) F dX10_whenOf_36 rfl ?_
      cases h
      exact z_reti F hr hk dX10_whenOf_37
    · replace h := zif_f hc h
      refine z_aload_n F dX10_whenOf_8 rfl 1 rfl ?_
      refine z_bipush (y := (99 : Int32)) F dX10_whenOf_9 rfl ?_
      obtain ⟨hi11, h⟩ := zix_ex h
      refine z_iald F t1 dX10_whenOf_11 hi11 ?_
      refine z_istore (n := 0) F [(4, .int (v x1 ((99 : Int32)).toNatClampNeg)), (0, zr G x0), (1, zr G x1), (2, .int x2), (3, .int x3)] dX10_whenOf_12 (Nat.le_of_ble_eq_true rfl) rfl ?_
      refine z_aload_n F dX10_whenOf_14 rfl 1 rfl ?_
      refine z_aload_n F dX10_whenOf_15 rfl 2 rfl ?_
      obtain ⟨v_1, hq16, h⟩ := zbindv_ex h
      refine z_callVv F [zr G x1] [] (kX10_goes x.2.1 G x0 t0 x1 t1 v v_1 hq16) mI_X10_goes (c := 10) rfl t0 wM_X10_359 mi_X10_goes sl_X10_goes dX10_whenOf_16 rfl ⟨Nat.le_of_ble_eq_true rfl, Nat.le_of_ble_eq_true rfl⟩ rfl (Nat.le_of_ble_eq_true rfl) ⟨Nat.zero_le _, Nat.zero_le _⟩ ?_
      refine z_aload_n F dX10_whenOf_19 rfl 1 rfl ?_
      refine zg_10_50 F t0 wF_X10_356 dX10_whenOf_20 ?_
      refine z_iload_n F dX10_whenOf_23 rfl 3 rfl ?_
      refine z_icmp_ne F 30 dX10_whenOf_24 rfl (fun hc => ?_) (fun hc => ?_)
      · replace h := zif_f hc h
        refine z_iinc F [(3, .int (x3 + (1 : Int32))), (4, .int (v x1 ((99 : Int32)).toNatClampNeg)), (0, zr G x0), (1, zr G x1), (2, .int x2)] dX10_whenOf_30 4 rfl rfl (Nat.le_of_ble_eq_true rfl) rfl ?_
        refine z_goto F 2 dX10_whenOf_33 rfl ?_
        refine z_ls [(0, zr G x0), (1, zr G x1), (2, .int x2), (3, .int (x3 + (1 : Int32)))] [2, 3, 4, 0] rfl ?_
        exact ih x0 t0 x1 t1 x2 (x3 + (1 : Int32)) v_1 h
      · replace h := zif_t hc h
        refine z_iload F dX10_whenOf_27 0 rfl ?_
        cases h
        exact z_reti F hr hk dX10_whenOf_29

def fX10_whenOf (x0 : Nat) (x1 : Nat) (x2 : Int32) (v : zV) : Option (Int32 × zV) :=
  fX10_whenOf_2  zFU x0 x1 x2 (0 : Int32) v
set_option maxRecDepth 4000 in
theorem kX10_whenOf (l : Launch) (G : zG) (x0 : Nat) (t0 : zty G x0 1 10) (x1 : Nat) (t1 : zty G x1 2 0) (x2 : Int32) (v : zV) (r : Int32) (w : zV) (h : fX10_whenOf x0 x1 x2 v = some (r, w)) : zMet l yX10_whenOf cX10_whenOf 5 (Option.some FieldType.int) 7 215 0 0 [zr G x0, zr G x1, .int x2] G v (some (.int r)) w := by
  refine zM_of (own := RX10) (by decide) rfl (Nat.le_of_ble_eq_true rfl) (fun x hl F hr hk hcs => ?_)
  subst hl
  refine z_ls [(0, zr G x0), (1, zr G x1), (2, .int x2)] [0, 1, 2] rfl ?_
  unfold fX10_whenOf at h
  refine z_iconst (y := (0 : Int32)) F dX10_whenOf_0 rfl ?_
  refine z_istore_n F [(3, .int (0 : Int32)), (0, zr G x0), (1, zr G x1), (2, .int x2)] dX10_whenOf_1 rfl (Nat.le_of_ble_eq_true rfl) rfl ?_
  refine z_ls [(0, zr G x0), (1, zr G x1), (2, .int x2), (3, .int (0 : Int32))] [1, 2, 3, 0] rfl ?_
  exact jX10_whenOf_2 x G F hr hk r w   zFU x0 t0 x1 t1 x2 (0 : Int32) v h

theorem dX10_when_0 : decode cX10_when 0 = .ok (.aload_n 0, 1) := by decide +kernel
theorem dX10_when_1 : decode cX10_when 1 = .ok (.iconst 0, 1) := by decide +kernel
theorem dX10_when_2 : decode cX10_when 2 = .ok (.putfield 134, 3) := by decide +kernel
theorem dX10_when_5 : decode cX10_when 5 = .ok (.aload_n 0, 1) := by decide +kernel
theorem dX10_when_6 : decode cX10_when 6 = .ok (.aload_n 0, 1) := by decide +kernel
theorem dX10_when_7 : decode cX10_when 7 = .ok (.iload_n 1, 1) := by decide +kernel
theorem dX10_when_8 : decode cX10_when 8 = .ok (.invokevirtual 298, 3) := by decide +kernel
theorem dX10_when_11 : decode cX10_when 11 = .ok (.ifCond .ne 7, 3) := by decide +kernel
theorem dX10_when_14 : decode cX10_when 14 = .ok (.iconst 1, 1) := by decide +kernel
theorem dX10_when_15 : decode cX10_when 15 = .ok (.goto 4, 3) := by decide +kernel
theorem dX10_when_18 : decode cX10_when 18 = .ok (.iconst 0, 1) := by decide +kernel
theorem dX10_when_19 : decode cX10_when 19 = .ok (.iconst 1, 1) := by decide +kernel
theorem dX10_when_20 : decode cX10_when 20 = .ok (.iconst 0, 1) := by decide +kernel
theorem dX10_when_21 : decode cX10_when 21 = .ok (.invokevirtual 220, 3) := by decide +kernel
theorem dX10_when_24 : decode cX10_when 24 = .ok (.ifCond .eq 5, 3) := by decide +kernel
theorem dX10_when_27 : decode cX10_when 27 = .ok (.iconst 0, 1) := by decide +kernel
theorem dX10_when_28 : decode cX10_when 28 = .ok (.ireturn, 1) := by decide +kernel
theorem dX10_when_29 : decode cX10_when 29 = .ok (.aload_n 0, 1) := by decide +kernel
theorem dX10_when_30 : decode cX10_when 30 = .ok (.getfield 85, 3) := by decide +kernel
theorem dX10_when_33 : decode cX10_when 33 = .ok (.aload_n 0, 1) := by decide +kernel
theorem dX10_when_34 : decode cX10_when 34 = .ok (.getfield 94, 3) := by decide +kernel
theorem dX10_when_37 : decode cX10_when 37 = .ok (.invokestatic 237, 3) := by decide +kernel
theorem dX10_when_40 : decode cX10_when 40 = .ok (.aload_n 0, 1) := by decide +kernel
theorem dX10_when_41 : decode cX10_when 41 = .ok (.aload_n 0, 1) := by decide +kernel
theorem dX10_when_42 : decode cX10_when 42 = .ok (.getfield 94, 3) := by decide +kernel
theorem dX10_when_45 : decode cX10_when 45 = .ok (.iload_n 1, 1) := by decide +kernel
theorem dX10_when_46 : decode cX10_when 46 = .ok (.invokevirtual 362, 3) := by decide +kernel
theorem dX10_when_49 : decode cX10_when 49 = .ok (.ireturn, 1) := by decide +kernel
def fX10_when_19  (x0 : Nat) (x1 : Int32) (s0 : Nat) (s1 : Int32) (v : zV) : Option (Int32 × zV) :=
  zbind (fX10_bad s0 s1 (1 : Int32) (0 : Int32) v) fun r_2 v_1 =>
  if r_2 = (0 : Int32) then
    zbindv (fX10_copies (zrf x0 35) (zrf x0 38) v_1) fun v_3 =>
    zbind (fX10_whenOf x0 (zrf x0 38) x1 v_3) fun r_5 v_4 =>
    some (r_5, v_4)
  else
    some ((0 : Int32), v_1)
set_option maxRecDepth 4000 in
theorem jX10_when_19 (x : zCx) (G : zG) (F : zF x G cX10_when 2 RX10 8 239) (hr : x.2.2.2.2.2.2.2.2.1.sig.returnType = (Option.some FieldType.int)) (hk : x.2.2.2.2.2.2.2.2.1.locks = false) (r : Int32) (w : zV)  : ∀ (x0 : Nat) (t0 : zty G x0 1 10) (x1 : Int32) (s0 : Nat) (ts0 : zty G s0 1 10) (s1 : Int32) (v : zV), fX10_when_19 x0 x1 s0 s1 v = some (r, w) → zJ x G 2 (zQ x G (some (.int r)) w 0 0) 0 0 19 [(0, zr G x0), (1, .int x1)] [.int s1, zr G s0] v := by
  intro x0 t0 x1 s0 ts0 s1 v h
  unfold fX10_when_19 at h
  refine z_iconst (y := (1 : Int32)) F dX10_when_19 rfl ?_
  refine z_iconst (y := (0 : Int32)) F dX10_when_20 rfl ?_
  obtain ⟨r_2, v_1, hq21, h⟩ := zbind_ex h
  refine z_callVi F [.int s1, .int (1 : Int32), .int (0 : Int32)] [] (kX10_bad x.2.1 G s0 ts0 s1 (1 : Int32) (0 : Int32) v r_2 v_1 hq21) mI_X10_bad (c := 10) rfl ts0 wM_X10_220 mi_X10_bad sl_X10_bad dX10_when_21 rfl ⟨Nat.le_of_ble_eq_true rfl, Nat.le_of_ble_eq_true rfl⟩ rfl (Nat.le_of_ble_eq_true rfl) ⟨Nat.zero_le _, Nat.zero_le _⟩ ?_
  refine z_if_eq F 29 dX10_when_24 rfl (fun hc => ?_) (fun hc => ?_)
  · replace h := zif_t hc h
    refine z_aload_n F dX10_when_29 rfl 0 rfl ?_
    refine zg_10_35 F t0 wF_X10_85 dX10_when_30 ?_
    refine z_aload_n F dX10_when_33 rfl 0 rfl ?_
    refine zg_10_38 F t0 wF_X10_94 dX10_when_34 ?_
    obtain ⟨v_3, hq37, h⟩ := zbindv_ex h
    refine z_callSv F [zr G (zrf x0 35), zr G (zrf x0 38)] [] (kX10_copies x.2.1 G (zrf x0 35) (zt_f tc_10_35 t0) (zrf x0 38) (zt_f tc_10_38 t0) v_1 v_3 hq37) mI_X10_copies wM_X10_237 ms_X10_copies dX10_when_37 rfl ⟨Nat.le_of_ble_eq_true rfl, Nat.le_of_ble_eq_true rfl⟩ rfl (Nat.le_of_ble_eq_true rfl) ⟨Nat.zero_le _, Nat.zero_le _⟩ ?_
    refine z_aload_n F dX10_when_40 rfl 0 rfl ?_
    refine z_aload_n F dX10_when_41 rfl 0 rfl ?_
    refine zg_10_38 F t0 wF_X10_94 dX10_when_42 ?_
    refine z_iload_n F dX10_when_45 rfl 1 rfl ?_
    obtain ⟨r_5, v_4, hq46, h⟩ := zbind_ex h
    refine z_callVi F [zr G (zrf x0 38), .int x1] [] (kX10_whenOf x.2.1 G x0 t0 (zrf x0 38) (zt_f tc_10_38 t0) x1 v_3 r_5 v_4 hq46) mI_X10_whenOf (c := 10) rfl t0 wM_X10_362 mi_X10_whenOf sl_X10_whenOf dX10_when_46 rfl ⟨Nat.le_of_ble_eq_true rfl, Nat.le_of_ble_eq_true rfl⟩ rfl (Nat.le_of_ble_eq_true rfl) ⟨Nat.zero_le _, Nat.zero_le _⟩ ?_
    cases h
    exact z_reti F hr hk dX10_when_49
  · replace h := zif_f hc h
    refine z_iconst (y := (0 : Int32)) F dX10_when_27 rfl ?_
    cases h
    exact z_reti F hr hk dX10_when_28

def fX10_when (x0 : Nat) (x1 : Int32) (v : zV) : Option (Int32 × zV) :=
  zlet (zup v x0 0 (0 : Int32)) fun v_1 =>
  zbind (fX10_isMan x0 x1 v_1) fun r_3 v_2 =>
  if r_3 = (0 : Int32) then
    fX10_when_19  x0 x1 x0 (1 : Int32) v_2
  else
    fX10_when_19  x0 x1 x0 (0 : Int32) v_2
set_option maxRecDepth 4000 in
theorem kX10_when (l : Launch) (G : zG) (x0 : Nat) (t0 : zty G x0 1 10) (x1 : Int32) (v : zV) (r : Int32) (w : zV) (h : fX10_when x0 x1 v = some (r, w)) : zMet l yX10_when cX10_when 2 (Option.some FieldType.int) 8 239 0 0 [zr G x0, .int x1] G v (some (.int r)) w := by
  refine zM_of (own := RX10) (by decide) rfl (Nat.le_of_ble_eq_true rfl) (fun x hl F hr hk hcs => ?_)
  subst hl
  refine z_ls [(0, zr G x0), (1, .int x1)] [0, 1] rfl ?_
  unfold fX10_when at h
  refine z_aload_n F dX10_when_0 rfl 0 rfl ?_
  refine z_iconst (y := (0 : Int32)) F dX10_when_1 rfl ?_
  refine zp_10_0 F t0 wF_X10_134 dX10_when_2 ?_
  obtain ⟨v_1, ev_1, h⟩ := zlet_ex h
  refine z_heap ev_1 ?_
  refine z_aload_n F dX10_when_5 rfl 0 rfl ?_
  refine z_aload_n F dX10_when_6 rfl 0 rfl ?_
  refine z_iload_n F dX10_when_7 rfl 1 rfl ?_
  obtain ⟨r_3, v_2, hq8, h⟩ := zbind_ex h
  refine z_callVi F [.int x1] [zr G x0] (kX10_isMan x.2.1 G x0 t0 x1 v_1 r_3 v_2 hq8) mI_X10_isMan (c := 10) rfl t0 wM_X10_298 mi_X10_isMan sl_X10_isMan dX10_when_8 rfl ⟨Nat.le_of_ble_eq_true rfl, Nat.le_of_ble_eq_true rfl⟩ rfl (Nat.le_of_ble_eq_true rfl) ⟨Nat.zero_le _, Nat.zero_le _⟩ ?_
  refine z_if_ne F 18 dX10_when_11 rfl (fun hc => ?_) (fun hc => ?_)
  · replace h := zif_f hc h
    refine z_iconst (y := (0 : Int32)) F dX10_when_18 rfl ?_
    refine z_ls [(0, zr G x0), (1, .int x1)] [0, 1] rfl ?_
    exact jX10_when_19 x G F hr hk r w   x0 t0 x1 x0 t0 (0 : Int32) v_2 h
  · replace h := zif_t hc h
    refine z_iconst (y := (1 : Int32)) F dX10_when_14 rfl ?_
    refine z_goto F 19 dX10_when_15 rfl ?_
    refine z_ls [(0, zr G x0), (1, .int x1)] [0, 1] rfl ?_
    exact jX10_when_19 x G F hr hk r w   x0 t0 x1 x0 t0 (1 : Int32) v_2 h

theorem dX10_breaks_0 : decode cX10_breaks 0 = .ok (.aload_n 0, 1) := by decide +kernel
theorem dX10_breaks_1 : decode cX10_breaks 1 = .ok (.iconst 0, 1) := by decide +kernel
theorem dX10_breaks_2 : decode cX10_breaks 2 = .ok (.putfield 134, 3) := by decide +kernel
theorem dX10_breaks_5 : decode cX10_breaks 5 = .ok (.aload_n 0, 1) := by decide +kernel
theorem dX10_breaks_6 : decode cX10_breaks 6 = .ok (.getfield 85, 3) := by decide +kernel
theorem dX10_breaks_9 : decode cX10_breaks 9 = .ok (.aload_n 0, 1) := by decide +kernel
theorem dX10_breaks_10 : decode cX10_breaks 10 = .ok (.getfield 94, 3) := by decide +kernel
theorem dX10_breaks_13 : decode cX10_breaks 13 = .ok (.invokestatic 237, 3) := by decide +kernel
theorem dX10_breaks_16 : decode cX10_breaks 16 = .ok (.aload_n 0, 1) := by decide +kernel
theorem dX10_breaks_17 : decode cX10_breaks 17 = .ok (.aload_n 0, 1) := by decide +kernel
theorem dX10_breaks_18 : decode cX10_breaks 18 = .ok (.getfield 94, 3) := by decide +kernel
theorem dX10_breaks_21 : decode cX10_breaks 21 = .ok (.iconst (-1), 1) := by decide +kernel
theorem dX10_breaks_22 : decode cX10_breaks 22 = .ok (.invokevirtual 362, 3) := by decide +kernel
theorem dX10_breaks_25 : decode cX10_breaks 25 = .ok (.ireturn, 1) := by decide +kernel
def fX10_breaks (x0 : Nat) (v : zV) : Option (Int32 × zV) :=
  zlet (zup v x0 0 (0 : Int32)) fun v_1 =>
  zbindv (fX10_copies (zrf x0 35) (zrf x0 38) v_1) fun v_2 =>
  zbind (fX10_whenOf x0 (zrf x0 38) (-1 : Int32) v_2) fun r_4 v_3 =>
  some (r_4, v_3)
set_option maxRecDepth 4000 in
theorem kX10_breaks (l : Launch) (G : zG) (x0 : Nat) (t0 : zty G x0 1 10) (v : zV) (r : Int32) (w : zV) (h : fX10_breaks x0 v = some (r, w)) : zMet l yX10_breaks cX10_breaks 1 (Option.some FieldType.int) 8 239 0 0 [zr G x0] G v (some (.int r)) w := by
  refine zM_of (own := RX10) (by decide) rfl (Nat.le_of_ble_eq_true rfl) (fun x hl F hr hk hcs => ?_)
  subst hl
  refine z_ls [(0, zr G x0)] [0] rfl ?_
  unfold fX10_breaks at h
  refine z_aload_n F dX10_breaks_0 rfl 0 rfl ?_
  refine z_iconst (y := (0 : Int32)) F dX10_breaks_1 rfl ?_
  refine zp_10_0 F t0 wF_X10_134 dX10_breaks_2 ?_
  obtain ⟨v_1, ev_1, h⟩ := zlet_ex h
  refine z_heap ev_1 ?_
  refine z_aload_n F dX10_breaks_5 rfl 0 rfl ?_
  refine zg_10_35 F t0 wF_X10_85 dX10_breaks_6 ?_
  refine z_aload_n F dX10_breaks_9 rfl 0 rfl ?_
  refine zg_10_38 F t0 wF_X10_94 dX10_breaks_10 ?_
  obtain ⟨v_2, hq13, h⟩ := zbindv_ex h
  refine z_callSv F [zr G (zrf x0 35), zr G (zrf x0 38)] [] (kX10_copies x.2.1 G (zrf x0 35) (zt_f tc_10_35 t0) (zrf x0 38) (zt_f tc_10_38 t0) v_1 v_2 hq13) mI_X10_copies wM_X10_237 ms_X10_copies dX10_breaks_13 rfl ⟨Nat.le_of_ble_eq_true rfl, Nat.le_of_ble_eq_true rfl⟩ rfl (Nat.le_of_ble_eq_true rfl) ⟨Nat.zero_le _, Nat.zero_le _⟩ ?_
  refine z_aload_n F dX10_breaks_16 rfl 0 rfl ?_
  refine z_aload_n F dX10_breaks_17 rfl 0 rfl ?_
  refine zg_10_38 F t0 wF_X10_94 dX10_breaks_18 ?_
  refine z_iconst (y := (-1 : Int32)) F dX10_breaks_21 rfl ?_
  obtain ⟨r_4, v_3, hq22, h⟩ := zbind_ex h
  refine z_callVi F [zr G (zrf x0 38), .int (-1 : Int32)] [] (kX10_whenOf x.2.1 G x0 t0 (zrf x0 38) (zt_f tc_10_38 t0) (-1 : Int32) v_2 r_4 v_3 hq22) mI_X10_whenOf (c := 10) rfl t0 wM_X10_362 mi_X10_whenOf sl_X10_whenOf dX10_breaks_22 rfl ⟨Nat.le_of_ble_eq_true rfl, Nat.le_of_ble_eq_true rfl⟩ rfl (Nat.le_of_ble_eq_true rfl) ⟨Nat.zero_le _, Nat.zero_le _⟩ ?_
  cases h
  exact z_reti F hr hk dX10_breaks_25

theorem dX10_stays_0 : decode cX10_stays 0 = .ok (.aload_n 0, 1) := by decide +kernel
theorem dX10_stays_1 : decode cX10_stays 1 = .ok (.iconst 0, 1) := by decide +kernel
theorem dX10_stays_2 : decode cX10_stays 2 = .ok (.putfield 134, 3) := by decide +kernel
theorem dX10_stays_5 : decode cX10_stays 5 = .ok (.aload_n 0, 1) := by decide +kernel
theorem dX10_stays_6 : decode cX10_stays 6 = .ok (.aload_n 0, 1) := by decide +kernel
theorem dX10_stays_7 : decode cX10_stays 7 = .ok (.iload_n 1, 1) := by decide +kernel
theorem dX10_stays_8 : decode cX10_stays 8 = .ok (.invokevirtual 298, 3) := by decide +kernel
theorem dX10_stays_11 : decode cX10_stays 11 = .ok (.ifCond .ne 7, 3) := by decide +kernel
theorem dX10_stays_14 : decode cX10_stays 14 = .ok (.iconst 1, 1) := by decide +kernel
theorem dX10_stays_15 : decode cX10_stays 15 = .ok (.goto 4, 3) := by decide +kernel
theorem dX10_stays_18 : decode cX10_stays 18 = .ok (.iconst 0, 1) := by decide +kernel
theorem dX10_stays_19 : decode cX10_stays 19 = .ok (.iconst 1, 1) := by decide +kernel
theorem dX10_stays_20 : decode cX10_stays 20 = .ok (.iconst 0, 1) := by decide +kernel
theorem dX10_stays_21 : decode cX10_stays 21 = .ok (.invokevirtual 220, 3) := by decide +kernel
theorem dX10_stays_24 : decode cX10_stays 24 = .ok (.ifCond .eq 5, 3) := by decide +kernel
theorem dX10_stays_27 : decode cX10_stays 27 = .ok (.iconst 0, 1) := by decide +kernel
theorem dX10_stays_28 : decode cX10_stays 28 = .ok (.ireturn, 1) := by decide +kernel
theorem dX10_stays_29 : decode cX10_stays 29 = .ok (.aload_n 0, 1) := by decide +kernel
theorem dX10_stays_30 : decode cX10_stays 30 = .ok (.getfield 85, 3) := by decide +kernel
theorem dX10_stays_33 : decode cX10_stays 33 = .ok (.aload_n 0, 1) := by decide +kernel
theorem dX10_stays_34 : decode cX10_stays 34 = .ok (.getfield 94, 3) := by decide +kernel
theorem dX10_stays_37 : decode cX10_stays 37 = .ok (.invokestatic 237, 3) := by decide +kernel
theorem dX10_stays_40 : decode cX10_stays 40 = .ok (.iconst 0, 1) := by decide +kernel
theorem dX10_stays_41 : decode cX10_stays 41 = .ok (.istore_n 2, 1) := by decide +kernel
theorem dX10_stays_42 : decode cX10_stays 42 = .ok (.iload_n 2, 1) := by decide +kernel
theorem dX10_stays_43 : decode cX10_stays 43 = .ok (.bipush 60, 2) := by decide +kernel
theorem dX10_stays_45 : decode cX10_stays 45 = .ok (.if_icmp .gt 31, 3) := by decide +kernel
theorem dX10_stays_48 : decode cX10_stays 48 = .ok (.aload_n 0, 1) := by decide +kernel
theorem dX10_stays_49 : decode cX10_stays 49 = .ok (.getfield 94, 3) := by decide +kernel
theorem dX10_stays_52 : decode cX10_stays 52 = .ok (.iconst 0, 1) := by decide +kernel
theorem dX10_stays_53 : decode cX10_stays 53 = .ok (.iload_n 1, 1) := by decide +kernel
theorem dX10_stays_54 : decode cX10_stays 54 = .ok (.iadd, 1) := by decide +kernel
theorem dX10_stays_55 : decode cX10_stays 55 = .ok (.iaload, 1) := by decide +kernel
theorem dX10_stays_56 : decode cX10_stays 56 = .ok (.iconst 1, 1) := by decide +kernel
theorem dX10_stays_57 : decode cX10_stays 57 = .ok (.if_icmp .eq 5, 3) := by decide +kernel
theorem dX10_stays_60 : decode cX10_stays 60 = .ok (.iload_n 2, 1) := by decide +kernel
theorem dX10_stays_61 : decode cX10_stays 61 = .ok (.ireturn, 1) := by decide +kernel
theorem dX10_stays_62 : decode cX10_stays 62 = .ok (.aload_n 0, 1) := by decide +kernel
theorem dX10_stays_63 : decode cX10_stays 63 = .ok (.aload_n 0, 1) := by decide +kernel
theorem dX10_stays_64 : decode cX10_stays 64 = .ok (.getfield 94, 3) := by decide +kernel
theorem dX10_stays_67 : decode cX10_stays 67 = .ok (.invokevirtual 359, 3) := by decide +kernel
theorem dX10_stays_70 : decode cX10_stays 70 = .ok (.iinc 2 1, 3) := by decide +kernel
theorem dX10_stays_73 : decode cX10_stays 73 = .ok (.goto (-31), 3) := by decide +kernel
theorem dX10_stays_76 : decode cX10_stays 76 = .ok (.iconst (-1), 1) := by decide +kernel
theorem dX10_stays_77 : decode cX10_stays 77 = .ok (.ireturn, 1) := by decide +kernel
def fX10_stays_42  : Nat → Nat → Int32 → Int32 → zV → Option (Int32 × zV)
  | 0 => fun _ _ _ _ => none
  | n + 1 => fun x0 x1 x2 v =>
    if (60 : Int32) < x2 then
      some ((-1 : Int32), v)
    else
      zix ((0 : Int32) + x1) (zlen (zrf x0 38)) <|
      if (v (zrf x0 38) ((0 : Int32) + x1).toNatClampNeg) = (1 : Int32) then
        zbindv (fX10_goes x0 (zrf x0 38) v) fun v_1 =>
        (fX10_stays_42 n) x0 x1 (x2 + (1 : Int32)) v_1
      else
        some (x2, v)
set_option maxRecDepth 4000 in
theorem jX10_stays_42 (x : zCx) (G : zG) (F : zF x G cX10_stays 3 RX10 7 215) (hr : x.2.2.2.2.2.2.2.2.1.sig.returnType = (Option.some FieldType.int)) (hk : x.2.2.2.2.2.2.2.2.1.locks = false) (r : Int32) (w : zV)  : ∀ (n : Nat) (x0 : Nat) (t0 : zty G x0 1 10) (x1 : Int32) (x2 : Int32) (v : zV), fX10_stays_42 n x0 x1 x2 v = some (r, w) → zJ x G 3 (zQ x G (some (.int r)) w 0 0) 0 0 42 [(0, zr G x0), (1, .int x1), (2, .int x2)] [] v := by
  intro n
  induction n with
  | zero => intro x0 t0 x1 x2 v h; exact absurd h (by intro q; cases q)
  | succ n ih =>
    intro x0 t0 x1 x2 v h
    rw [fX10_stays_42] at h
    dsimp only at h
    refine z_iload_n F dX10_stays_42 rfl 2 rfl ?_
    refine z_bipush (y := (60 : Int32)) F dX10_stays_43 rfl ?_
    refine z_icmp_gt F 76 dX10_stays_45 rfl (fun hc => ?_) (fun hc => ?_)
    · replace h := zif_t hc h
      refine z_iconst (y := (-1 : Int32)) F dX10_stays_76 rfl ?_
      cases h
      exact z_reti F hr hk dX10_stays_77
    · replace h := zif_f hc h
      refine z_aload_n F dX10_stays_48 rfl 0 rfl ?_
      refine zg_10_38 F t0 wF_X10_94 dX10_stays_49 ?_
      refine z_iconst (y := (0 : Int32)) F dX10_stays_52 rfl ?_
      refine z_iload_n F dX10_stays_53 rfl 1 rfl ?_
      refine z_iadd F dX10_stays_54 ?_
      obtain ⟨hi55, h⟩ := zix_ex h
      refine z_iald F (zt_f tc_10_38 t0) dX10_stays_55 hi55 ?_
      refine z_iconst (y := (1 : Int32)) F dX10_stays_56 rfl ?_
      refine z_icmp_eq F 62 dX10_stays_57 rfl (fun hc => ?_) (fun hc => ?_)
      · replace h := zif_t hc h
        refine z_aload_n F dX10_stays_62 rfl 0 rfl ?_
        refine z_aload_n F dX10_stays_63 rfl 0 rfl ?_
        refine zg_10_38 F t0 wF_X10_94 dX10_stays_64 ?_
        obtain ⟨v_1, hq67, h⟩ := zbindv_ex h
        refine z_callVv F [zr G (zrf x0 38)] [] (kX10_goes x.2.1 G x0 t0 (zrf x0 38) (zt_f tc_10_38 t0) v v_1 hq67) mI_X10_goes (c := 10) rfl t0 wM_X10_359 mi_X10_goes sl_X10_goes dX10_stays_67 rfl ⟨Nat.le_of_ble_eq_true rfl, Nat.le_of_ble_eq_true rfl⟩ rfl (Nat.le_of_ble_eq_true rfl) ⟨Nat.zero_le _, Nat.zero_le _⟩ ?_
        refine z_iinc F [(2, .int (x2 + (1 : Int32))), (0, zr G x0), (1, .int x1)] dX10_stays_70 2 rfl rfl (Nat.le_of_ble_eq_true rfl) rfl ?_
        refine z_goto F 42 dX10_stays_73 rfl ?_
        refine z_ls [(0, zr G x0), (1, .int x1), (2, .int (x2 + (1 : Int32)))] [1, 2, 0] rfl ?_
        exact ih x0 t0 x1 (x2 + (1 : Int32)) v_1 h
      · replace h := zif_f hc h
        refine z_iload_n F dX10_stays_60 rfl 2 rfl ?_
        cases h
        exact z_reti F hr hk dX10_stays_61

def fX10_stays_19  (x0 : Nat) (x1 : Int32) (s0 : Nat) (s1 : Int32) (v : zV) : Option (Int32 × zV) :=
  zbind (fX10_bad s0 s1 (1 : Int32) (0 : Int32) v) fun r_2 v_1 =>
  if r_2 = (0 : Int32) then
    zbindv (fX10_copies (zrf x0 35) (zrf x0 38) v_1) fun v_3 =>
    fX10_stays_42  zFU x0 x1 (0 : Int32) v_3
  else
    some ((0 : Int32), v_1)
set_option maxRecDepth 4000 in
theorem jX10_stays_19 (x : zCx) (G : zG) (F : zF x G cX10_stays 3 RX10 7 215) (hr : x.2.2.2.2.2.2.2.2.1.sig.returnType = (Option.some FieldType.int)) (hk : x.2.2.2.2.2.2.2.2.1.locks = false) (r : Int32) (w : zV)  : ∀ (x0 : Nat) (t0 : zty G x0 1 10) (x1 : Int32) (s0 : Nat) (ts0 : zty G s0 1 10) (s1 : Int32) (v : zV), fX10_stays_19 x0 x1 s0 s1 v = some (r, w) → zJ x G 3 (zQ x G (some (.int r)) w 0 0) 0 0 19 [(0, zr G x0), (1, .int x1)] [.int s1, zr G s0] v := by
  intro x0 t0 x1 s0 ts0 s1 v h
  unfold fX10_stays_19 at h
  refine z_iconst (y := (1 : Int32)) F dX10_stays_19 rfl ?_
  refine z_iconst (y := (0 : Int32)) F dX10_stays_20 rfl ?_
  obtain ⟨r_2, v_1, hq21, h⟩ := zbind_ex h
  refine z_callVi F [.int s1, .int (1 : Int32), .int (0 : Int32)] [] (kX10_bad x.2.1 G s0 ts0 s1 (1 : Int32) (0 : Int32) v r_2 v_1 hq21) mI_X10_bad (c := 10) rfl ts0 wM_X10_220 mi_X10_bad sl_X10_bad dX10_stays_21 rfl ⟨Nat.le_of_ble_eq_true rfl, Nat.le_of_ble_eq_true rfl⟩ rfl (Nat.le_of_ble_eq_true rfl) ⟨Nat.zero_le _, Nat.zero_le _⟩ ?_
  refine z_if_eq F 29 dX10_stays_24 rfl (fun hc => ?_) (fun hc => ?_)
  · replace h := zif_t hc h
    refine z_aload_n F dX10_stays_29 rfl 0 rfl ?_
    refine zg_10_35 F t0 wF_X10_85 dX10_stays_30 ?_
    refine z_aload_n F dX10_stays_33 rfl 0 rfl ?_
    refine zg_10_38 F t0 wF_X10_94 dX10_stays_34 ?_
    obtain ⟨v_3, hq37, h⟩ := zbindv_ex h
    refine z_callSv F [zr G (zrf x0 35), zr G (zrf x0 38)] [] (kX10_copies x.2.1 G (zrf x0 35) (zt_f tc_10_35 t0) (zrf x0 38) (zt_f tc_10_38 t0) v_1 v_3 hq37) mI_X10_copies wM_X10_237 ms_X10_copies dX10_stays_37 rfl ⟨Nat.le_of_ble_eq_true rfl, Nat.le_of_ble_eq_true rfl⟩ rfl (Nat.le_of_ble_eq_true rfl) ⟨Nat.zero_le _, Nat.zero_le _⟩ ?_
    refine z_iconst (y := (0 : Int32)) F dX10_stays_40 rfl ?_
    refine z_istore_n F [(2, .int (0 : Int32)), (0, zr G x0), (1, .int x1)] dX10_stays_41 rfl (Nat.le_of_ble_eq_true rfl) rfl ?_
    refine z_ls [(0, zr G x0), (1, .int x1), (2, .int (0 : Int32))] [1, 2, 0] rfl ?_
    exact jX10_stays_42 x G F hr hk r w   zFU x0 t0 x1 (0 : Int32) v_3 h
  · replace h := zif_f hc h
    refine z_iconst (y := (0 : Int32)) F dX10_stays_27 rfl ?_
    cases h
    exact z_reti F hr hk dX10_stays_28

def fX10_stays (x0 : Nat) (x1 : Int32) (v : zV) : Option (Int32 × zV) :=
  zlet (zup v x0 0 (0 : Int32)) fun v_1 =>
  zbind (fX10_isMan x0 x1 v_1) fun r_3 v_2 =>
  if r_3 = (0 : Int32) then
    fX10_stays_19  x0 x1 x0 (1 : Int32) v_2
  else
    fX10_stays_19  x0 x1 x0 (0 : Int32) v_2
set_option maxRecDepth 4000 in
theorem kX10_stays (l : Launch) (G : zG) (x0 : Nat) (t0 : zty G x0 1 10) (x1 : Int32) (v : zV) (r : Int32) (w : zV) (h : fX10_stays x0 x1 v = some (r, w)) : zMet l yX10_stays cX10_stays 3 (Option.some FieldType.int) 7 215 0 0 [zr G x0, .int x1] G v (some (.int r)) w := by
  refine zM_of (own := RX10) (by decide) rfl (Nat.le_of_ble_eq_true rfl) (fun x hl F hr hk hcs => ?_)
  subst hl
  refine z_ls [(0, zr G x0), (1, .int x1)] [0, 1] rfl ?_
  unfold fX10_stays at h
  refine z_aload_n F dX10_stays_0 rfl 0 rfl ?_
  refine z_iconst (y := (0 : Int32)) F dX10_stays_1 rfl ?_
  refine zp_10_0 F t0 wF_X10_134 dX10_stays_2 ?_
  obtain ⟨v_1, ev_1, h⟩ := zlet_ex h
  refine z_heap ev_1 ?_
  refine z_aload_n F dX10_stays_5 rfl 0 rfl ?_
  refine z_aload_n F dX10_stays_6 rfl 0 rfl ?_
  refine z_iload_n F dX10_stays_7 rfl 1 rfl ?_
  obtain ⟨r_3, v_2, hq8, h⟩ := zbind_ex h
  refine z_callVi F [.int x1] [zr G x0] (kX10_isMan x.2.1 G x0 t0 x1 v_1 r_3 v_2 hq8) mI_X10_isMan (c := 10) rfl t0 wM_X10_298 mi_X10_isMan sl_X10_isMan dX10_stays_8 rfl ⟨Nat.le_of_ble_eq_true rfl, Nat.le_of_ble_eq_true rfl⟩ rfl (Nat.le_of_ble_eq_true rfl) ⟨Nat.zero_le _, Nat.zero_le _⟩ ?_
  refine z_if_ne F 18 dX10_stays_11 rfl (fun hc => ?_) (fun hc => ?_)
  · replace h := zif_f hc h
    refine z_iconst (y := (0 : Int32)) F dX10_stays_18 rfl ?_
    refine z_ls [(0, zr G x0), (1, .int x1)] [0, 1] rfl ?_
    exact jX10_stays_19 x G F hr hk r w   x0 t0 x1 x0 t0 (0 : Int32) v_2 h
  · replace h := zif_t hc h
    refine z_iconst (y := (1 : Int32)) F dX10_stays_14 rfl ?_
    refine z_goto F 19 dX10_stays_15 rfl ?_
    refine z_ls [(0, zr G x0), (1, .int x1)] [0, 1] rfl ?_
    exact jX10_stays_19 x G F hr hk r w   x0 t0 x1 x0 t0 (1 : Int32) v_2 h

theorem dX10_heir_0 : decode cX10_heir 0 = .ok (.aload_n 0, 1) := by decide +kernel
theorem dX10_heir_1 : decode cX10_heir 1 = .ok (.iconst 0, 1) := by decide +kernel
theorem dX10_heir_2 : decode cX10_heir 2 = .ok (.putfield 134, 3) := by decide +kernel
theorem dX10_heir_5 : decode cX10_heir 5 = .ok (.aload_n 0, 1) := by decide +kernel
theorem dX10_heir_6 : decode cX10_heir 6 = .ok (.aload_n 0, 1) := by decide +kernel
theorem dX10_heir_7 : decode cX10_heir 7 = .ok (.iload_n 1, 1) := by decide +kernel
theorem dX10_heir_8 : decode cX10_heir 8 = .ok (.invokevirtual 298, 3) := by decide +kernel
theorem dX10_heir_11 : decode cX10_heir 11 = .ok (.ifCond .ne 7, 3) := by decide +kernel
theorem dX10_heir_14 : decode cX10_heir 14 = .ok (.iconst 1, 1) := by decide +kernel
theorem dX10_heir_15 : decode cX10_heir 15 = .ok (.goto 4, 3) := by decide +kernel
theorem dX10_heir_18 : decode cX10_heir 18 = .ok (.iconst 0, 1) := by decide +kernel
theorem dX10_heir_19 : decode cX10_heir 19 = .ok (.iconst 1, 1) := by decide +kernel
theorem dX10_heir_20 : decode cX10_heir 20 = .ok (.iconst 0, 1) := by decide +kernel
theorem dX10_heir_21 : decode cX10_heir 21 = .ok (.invokevirtual 220, 3) := by decide +kernel
theorem dX10_heir_24 : decode cX10_heir 24 = .ok (.ifCond .eq 5, 3) := by decide +kernel
theorem dX10_heir_27 : decode cX10_heir 27 = .ok (.iconst 0, 1) := by decide +kernel
theorem dX10_heir_28 : decode cX10_heir 28 = .ok (.ireturn, 1) := by decide +kernel
theorem dX10_heir_29 : decode cX10_heir 29 = .ok (.aload_n 0, 1) := by decide +kernel
theorem dX10_heir_30 : decode cX10_heir 30 = .ok (.getfield 85, 3) := by decide +kernel
theorem dX10_heir_33 : decode cX10_heir 33 = .ok (.iconst 0, 1) := by decide +kernel
theorem dX10_heir_34 : decode cX10_heir 34 = .ok (.iload_n 1, 1) := by decide +kernel
theorem dX10_heir_35 : decode cX10_heir 35 = .ok (.iadd, 1) := by decide +kernel
theorem dX10_heir_36 : decode cX10_heir 36 = .ok (.iaload, 1) := by decide +kernel
theorem dX10_heir_37 : decode cX10_heir 37 = .ok (.iconst 1, 1) := by decide +kernel
theorem dX10_heir_38 : decode cX10_heir 38 = .ok (.if_icmp .eq 5, 3) := by decide +kernel
theorem dX10_heir_41 : decode cX10_heir 41 = .ok (.iconst (-1), 1) := by decide +kernel
theorem dX10_heir_42 : decode cX10_heir 42 = .ok (.ireturn, 1) := by decide +kernel
theorem dX10_heir_43 : decode cX10_heir 43 = .ok (.aload_n 0, 1) := by decide +kernel
theorem dX10_heir_44 : decode cX10_heir 44 = .ok (.getfield 85, 3) := by decide +kernel
theorem dX10_heir_47 : decode cX10_heir 47 = .ok (.aload_n 0, 1) := by decide +kernel
theorem dX10_heir_48 : decode cX10_heir 48 = .ok (.getfield 94, 3) := by decide +kernel
theorem dX10_heir_51 : decode cX10_heir 51 = .ok (.invokestatic 237, 3) := by decide +kernel
theorem dX10_heir_54 : decode cX10_heir 54 = .ok (.aload_n 0, 1) := by decide +kernel
theorem dX10_heir_55 : decode cX10_heir 55 = .ok (.aload_n 0, 1) := by decide +kernel
theorem dX10_heir_56 : decode cX10_heir 56 = .ok (.getfield 94, 3) := by decide +kernel
theorem dX10_heir_59 : decode cX10_heir 59 = .ok (.iload_n 1, 1) := by decide +kernel
theorem dX10_heir_60 : decode cX10_heir 60 = .ok (.invokevirtual 333, 3) := by decide +kernel
theorem dX10_heir_63 : decode cX10_heir 63 = .ok (.iconst 0, 1) := by decide +kernel
theorem dX10_heir_64 : decode cX10_heir 64 = .ok (.istore_n 2, 1) := by decide +kernel
theorem dX10_heir_65 : decode cX10_heir 65 = .ok (.iload_n 2, 1) := by decide +kernel
theorem dX10_heir_66 : decode cX10_heir 66 = .ok (.bipush 60, 2) := by decide +kernel
theorem dX10_heir_68 : decode cX10_heir 68 = .ok (.if_icmp .ge 30, 3) := by decide +kernel
theorem dX10_heir_71 : decode cX10_heir 71 = .ok (.aload_n 0, 1) := by decide +kernel
theorem dX10_heir_72 : decode cX10_heir 72 = .ok (.aload_n 0, 1) := by decide +kernel
theorem dX10_heir_73 : decode cX10_heir 73 = .ok (.getfield 94, 3) := by decide +kernel
theorem dX10_heir_76 : decode cX10_heir 76 = .ok (.invokevirtual 359, 3) := by decide +kernel
theorem dX10_heir_79 : decode cX10_heir 79 = .ok (.aload_n 0, 1) := by decide +kernel
theorem dX10_heir_80 : decode cX10_heir 80 = .ok (.getfield 356, 3) := by decide +kernel
theorem dX10_heir_83 : decode cX10_heir 83 = .ok (.iconst (-1), 1) := by decide +kernel
theorem dX10_heir_84 : decode cX10_heir 84 = .ok (.if_icmp .eq 8, 3) := by decide +kernel
theorem dX10_heir_87 : decode cX10_heir 87 = .ok (.aload_n 0, 1) := by decide +kernel
theorem dX10_heir_88 : decode cX10_heir 88 = .ok (.getfield 356, 3) := by decide +kernel
theorem dX10_heir_91 : decode cX10_heir 91 = .ok (.ireturn, 1) := by decide +kernel
theorem dX10_heir_92 : decode cX10_heir 92 = .ok (.iinc 2 1, 3) := by decide +kernel
theorem dX10_heir_95 : decode cX10_heir 95 = .ok (.goto (-30), 3) := by decide +kernel
theorem dX10_heir_98 : decode cX10_heir 98 = .ok (.iconst (-1), 1) := by decide +kernel
theorem dX10_heir_99 : decode cX10_heir 99 = .ok (.ireturn, 1) := by decide +kernel
def fX10_heir_65  : Nat → Nat → Int32 → zV → Option (Int32 × zV)
  | 0 => fun _ _ _ => none
  | n + 1 => fun x0 x2 v =>
    if (60 : Int32) ≤ x2 then
      some ((-1 : Int32), v)
    else
      zbindv (fX10_goes x0 (zrf x0 38) v) fun v_1 =>
      if (v_1 x0 50) = (-1 : Int32) then
        (fX10_heir_65 n) x0 (x2 + (1 : Int32)) v_1
      else
        some (v_1 x0 50, v_1)
set_option maxRecDepth 4000 in
theorem jX10_heir_65 (x : zCx) (G : zG) (F : zF x G cX10_heir 3 RX10 7 215) (hr : x.2.2.2.2.2.2.2.2.1.sig.returnType = (Option.some FieldType.int)) (hk : x.2.2.2.2.2.2.2.2.1.locks = false) (r : Int32) (w : zV)  : ∀ (n : Nat) (x0 : Nat) (t0 : zty G x0 1 10) (x2 : Int32) (v : zV), fX10_heir_65 n x0 x2 v = some (r, w) → zJ x G 3 (zQ x G (some (.int r)) w 0 0) 0 0 65 [(0, zr G x0), (2, .int x2)] [] v := by
  intro n
  induction n with
  | zero => intro x0 t0 x2 v h; exact absurd h (by intro q; cases q)
  | succ n ih =>
    intro x0 t0 x2 v h
    rw [fX10_heir_65] at h
    dsimp only at h
    refine z_iload_n F dX10_heir_65 rfl 1 rfl ?_
    refine z_bipush (y := (60 : Int32)) F dX10_heir_66 rfl ?_
    refine z_icmp_ge F 98 dX10_heir_68 rfl (fun hc => ?_) (fun hc => ?_)
    · replace h := zif_t hc h
      refine z_iconst (y := (-1 : Int32)) F dX10_heir_98 rfl ?_
      cases h
      exact z_reti F hr hk dX10_heir_99
    · replace h := zif_f hc h
      refine z_aload_n F dX10_heir_71 rfl 0 rfl ?_
      refine z_aload_n F dX10_heir_72 rfl 0 rfl ?_
      refine zg_10_38 F t0 wF_X10_94 dX10_heir_73 ?_
      obtain ⟨v_1, hq76, h⟩ := zbindv_ex h
      refine z_callVv F [zr G (zrf x0 38)] [] (kX10_goes x.2.1 G x0 t0 (zrf x0 38) (zt_f tc_10_38 t0) v v_1 hq76) mI_X10_goes (c := 10) rfl t0 wM_X10_359 mi_X10_goes sl_X10_goes dX10_heir_76 rfl ⟨Nat.le_of_ble_eq_true rfl, Nat.le_of_ble_eq_true rfl⟩ rfl (Nat.le_of_ble_eq_true rfl) ⟨Nat.zero_le _, Nat.zero_le _⟩ ?_
      refine z_aload_n F dX10_heir_79 rfl 0 rfl ?_
      refine zg_10_50 F t0 wF_X10_356 dX10_heir_80 ?_
      refine z_iconst (y := (-1 : Int32)) F dX10_heir_83 rfl ?_
      refine z_icmp_eq F 92 dX10_heir_84 rfl (fun hc => ?_) (fun hc => ?_)
      · replace h := zif_t hc h
        refine z_iinc F [(2, .int (x2 + (1 : Int32))), (0, zr G x0)] dX10_heir_92 1 rfl rfl (Nat.le_of_ble_eq_true rfl) rfl ?_
        refine z_goto F 65 dX10_heir_95 rfl ?_
        refine z_ls [(0, zr G x0), (2, .int (x2 + (1 : Int32)))] [1, 0] rfl ?_
        exact ih x0 t0 (x2 + (1 : Int32)) v_1 h
      · replace h := zif_f hc h
        refine z_aload_n F dX10_heir_87 rfl 0 rfl ?_
        refine zg_10_50 F t0 wF_X10_356 dX10_heir_88 ?_
        cases h
        exact z_reti F hr hk dX10_heir_91

def fX10_heir_19  (x0 : Nat) (x1 : Int32) (s0 : Nat) (s1 : Int32) (v : zV) : Option (Int32 × zV) :=
  zbind (fX10_bad s0 s1 (1 : Int32) (0 : Int32) v) fun r_2 v_1 =>
  if r_2 = (0 : Int32) then
    zix ((0 : Int32) + x1) (zlen (zrf x0 35)) <|
    if (v_1 (zrf x0 35) ((0 : Int32) + x1).toNatClampNeg) = (1 : Int32) then
      zbindv (fX10_copies (zrf x0 35) (zrf x0 38) v_1) fun v_3 =>
      zbindv (fX10_dies x0 (zrf x0 38) x1 v_3) fun v_4 =>
      fX10_heir_65  zFU x0 (0 : Int32) v_4
    else
      some ((-1 : Int32), v_1)
  else
    some ((0 : Int32), v_1)
set_option maxRecDepth 4000 in
theorem jX10_heir_19 (x : zCx) (G : zG) (F : zF x G cX10_heir 3 RX10 7 215) (hr : x.2.2.2.2.2.2.2.2.1.sig.returnType = (Option.some FieldType.int)) (hk : x.2.2.2.2.2.2.2.2.1.locks = false) (r : Int32) (w : zV)  : ∀ (x0 : Nat) (t0 : zty G x0 1 10) (x1 : Int32) (s0 : Nat) (ts0 : zty G s0 1 10) (s1 : Int32) (v : zV), fX10_heir_19 x0 x1 s0 s1 v = some (r, w) → zJ x G 3 (zQ x G (some (.int r)) w 0 0) 0 0 19 [(0, zr G x0), (1, .int x1)] [.int s1, zr G s0] v := by
  intro x0 t0 x1 s0 ts0 s1 v h
  unfold fX10_heir_19 at h
  refine z_iconst (y := (1 : Int32)) F dX10_heir_19 rfl ?_
  refine z_iconst (y := (0 : Int32)) F dX10_heir_20 rfl ?_
  obtain ⟨r_2, v_1, hq21, h⟩ := zbind_ex h
  refine z_callVi F [.int s1, .int (1 : Int32), .int (0 : Int32)] [] (kX10_bad x.2.1 G s0 ts0 s1 (1 : Int32) (0 : Int32) v r_2 v_1 hq21) mI_X10_bad (c := 10) rfl ts0 wM_X10_220 mi_X10_bad sl_X10_bad dX10_heir_21 rfl ⟨Nat.le_of_ble_eq_true rfl, Nat.le_of_ble_eq_true rfl⟩ rfl (Nat.le_of_ble_eq_true rfl) ⟨Nat.zero_le _, Nat.zero_le _⟩ ?_
  refine z_if_eq F 29 dX10_heir_24 rfl (fun hc => ?_) (fun hc => ?_)
  · replace h := zif_t hc h
    refine z_aload_n F dX10_heir_29 rfl 0 rfl ?_
    refine zg_10_35 F t0 wF_X10_85 dX10_heir_30 ?_
    refine z_iconst (y := (0 : Int32)) F dX10_heir_33 rfl ?_
    refine z_iload_n F dX10_heir_34 rfl 1 rfl ?_
    refine z_iadd F dX10_heir_35 ?_
    obtain ⟨hi36, h⟩ := zix_ex h
    refine z_iald F (zt_f tc_10_35 t0) dX10_heir_36 hi36 ?_
    refine z_iconst (y := (1 : Int32)) F dX10_heir_37 rfl ?_
    refine z_icmp_eq F 43 dX10_heir_38 rfl (fun hc => ?_) (fun hc => ?_)
    · replace h := zif_t hc h
      refine z_aload_n F dX10_heir_43 rfl 0 rfl ?_
      refine zg_10_35 F t0 wF_X10_85 dX10_heir_44 ?_
      refine z_aload_n F dX10_heir_47 rfl 0 rfl ?_
      refine zg_10_38 F t0 wF_X10_94 dX10_heir_48 ?_
      obtain ⟨v_3, hq51, h⟩ := zbindv_ex h
      refine z_callSv F [zr G (zrf x0 35), zr G (zrf x0 38)] [] (kX10_copies x.2.1 G (zrf x0 35) (zt_f tc_10_35 t0) (zrf x0 38) (zt_f tc_10_38 t0) v_1 v_3 hq51) mI_X10_copies wM_X10_237 ms_X10_copies dX10_heir_51 rfl ⟨Nat.le_of_ble_eq_true rfl, Nat.le_of_ble_eq_true rfl⟩ rfl (Nat.le_of_ble_eq_true rfl) ⟨Nat.zero_le _, Nat.zero_le _⟩ ?_
      refine z_aload_n F dX10_heir_54 rfl 0 rfl ?_
      refine z_aload_n F dX10_heir_55 rfl 0 rfl ?_
      refine zg_10_38 F t0 wF_X10_94 dX10_heir_56 ?_
      refine z_iload_n F dX10_heir_59 rfl 1 rfl ?_
      obtain ⟨v_4, hq60, h⟩ := zbindv_ex h
      refine z_callVv F [zr G (zrf x0 38), .int x1] [] (kX10_dies x.2.1 G x0 t0 (zrf x0 38) (zt_f tc_10_38 t0) x1 v_3 v_4 hq60) mI_X10_dies (c := 10) rfl t0 wM_X10_333 mi_X10_dies sl_X10_dies dX10_heir_60 rfl ⟨Nat.le_of_ble_eq_true rfl, Nat.le_of_ble_eq_true rfl⟩ rfl (Nat.le_of_ble_eq_true rfl) ⟨Nat.zero_le _, Nat.zero_le _⟩ ?_
      refine z_iconst (y := (0 : Int32)) F dX10_heir_63 rfl ?_
      refine z_istore_n F [(2, .int (0 : Int32)), (0, zr G x0), (1, .int x1)] dX10_heir_64 rfl (Nat.le_of_ble_eq_true rfl) rfl ?_
      refine z_ls [(0, zr G x0), (2, .int (0 : Int32))] [1, 0] rfl ?_
      exact jX10_heir_65 x G F hr hk r w   zFU x0 t0 (0 : Int32) v_4 h
    · replace h := zif_f hc h
      refine z_iconst (y := (-1 : Int32)) F dX10_heir_41 rfl ?_
      cases h
      exact z_reti F hr hk dX10_heir_42
  · replace h := zif_f hc h
    refine z_iconst (y := (0 : Int32)) F dX10_heir_27 rfl ?_
    cases h
    exact z_reti F hr hk dX10_heir_28

def fX10_heir (x0 : Nat) (x1 : Int32) (v : zV) : Option (Int32 × zV) :=
  zlet (zup v x0 0 (0 : Int32)) fun v_1 =>
  zbind (fX10_isMan x0 x1 v_1) fun r_3 v_2 =>
  if r_3 = (0 : Int32) then
    fX10_heir_19  x0 x1 x0 (1 : Int32) v_2
  else
    fX10_heir_19  x0 x1 x0 (0 : Int32) v_2
set_option maxRecDepth 4000 in
theorem kX10_heir (l : Launch) (G : zG) (x0 : Nat) (t0 : zty G x0 1 10) (x1 : Int32) (v : zV) (r : Int32) (w : zV) (h : fX10_heir x0 x1 v = some (r, w)) : zMet l yX10_heir cX10_heir 3 (Option.some FieldType.int) 7 215 0 0 [zr G x0, .int x1] G v (some (.int r)) w := by
  refine zM_of (own := RX10) (by decide) rfl (Nat.le_of_ble_eq_true rfl) (fun x hl F hr hk hcs => ?_)
  subst hl
  refine z_ls [(0, zr G x0), (1, .int x1)] [0, 1] rfl ?_
  unfold fX10_heir at h
  refine z_aload_n F dX10_heir_0 rfl 0 rfl ?_
  refine z_iconst (y := (0 : Int32)) F dX10_heir_1 rfl ?_
  refine zp_10_0 F t0 wF_X10_134 dX10_heir_2 ?_
  obtain ⟨v_1, ev_1, h⟩ := zlet_ex h
  refine z_heap ev_1 ?_
  refine z_aload_n F dX10_heir_5 rfl 0 rfl ?_
  refine z_aload_n F dX10_heir_6 rfl 0 rfl ?_
  refine z_iload_n F dX10_heir_7 rfl 1 rfl ?_
  obtain ⟨r_3, v_2, hq8, h⟩ := zbind_ex h
  refine z_callVi F [.int x1] [zr G x0] (kX10_isMan x.2.1 G x0 t0 x1 v_1 r_3 v_2 hq8) mI_X10_isMan (c := 10) rfl t0 wM_X10_298 mi_X10_isMan sl_X10_isMan dX10_heir_8 rfl ⟨Nat.le_of_ble_eq_true rfl, Nat.le_of_ble_eq_true rfl⟩ rfl (Nat.le_of_ble_eq_true rfl) ⟨Nat.zero_le _, Nat.zero_le _⟩ ?_
  refine z_if_ne F 18 dX10_heir_11 rfl (fun hc => ?_) (fun hc => ?_)
  · replace h := zif_f hc h
    refine z_iconst (y := (0 : Int32)) F dX10_heir_18 rfl ?_
    refine z_ls [(0, zr G x0), (1, .int x1)] [0, 1] rfl ?_
    exact jX10_heir_19 x G F hr hk r w   x0 t0 x1 x0 t0 (0 : Int32) v_2 h
  · replace h := zif_t hc h
    refine z_iconst (y := (1 : Int32)) F dX10_heir_14 rfl ?_
    refine z_goto F 19 dX10_heir_15 rfl ?_
    refine z_ls [(0, zr G x0), (1, .int x1)] [0, 1] rfl ?_
    exact jX10_heir_19 x G F hr hk r w   x0 t0 x1 x0 t0 (1 : Int32) v_2 h

theorem dX10_doomed_0 : decode cX10_doomed 0 = .ok (.aload_n 0, 1) := by decide +kernel
theorem dX10_doomed_1 : decode cX10_doomed 1 = .ok (.iconst 0, 1) := by decide +kernel
theorem dX10_doomed_2 : decode cX10_doomed 2 = .ok (.putfield 134, 3) := by decide +kernel
theorem dX10_doomed_5 : decode cX10_doomed 5 = .ok (.aload_n 0, 1) := by decide +kernel
theorem dX10_doomed_6 : decode cX10_doomed 6 = .ok (.aload_n 0, 1) := by decide +kernel
theorem dX10_doomed_7 : decode cX10_doomed 7 = .ok (.iload_n 1, 1) := by decide +kernel
theorem dX10_doomed_8 : decode cX10_doomed 8 = .ok (.invokevirtual 298, 3) := by decide +kernel
theorem dX10_doomed_11 : decode cX10_doomed 11 = .ok (.ifCond .ne 7, 3) := by decide +kernel
theorem dX10_doomed_14 : decode cX10_doomed 14 = .ok (.iconst 1, 1) := by decide +kernel
theorem dX10_doomed_15 : decode cX10_doomed 15 = .ok (.goto 4, 3) := by decide +kernel
theorem dX10_doomed_18 : decode cX10_doomed 18 = .ok (.iconst 0, 1) := by decide +kernel
theorem dX10_doomed_19 : decode cX10_doomed 19 = .ok (.iconst 1, 1) := by decide +kernel
theorem dX10_doomed_20 : decode cX10_doomed 20 = .ok (.iconst 0, 1) := by decide +kernel
theorem dX10_doomed_21 : decode cX10_doomed 21 = .ok (.invokevirtual 220, 3) := by decide +kernel
theorem dX10_doomed_24 : decode cX10_doomed 24 = .ok (.ifCond .eq 5, 3) := by decide +kernel
theorem dX10_doomed_27 : decode cX10_doomed 27 = .ok (.iconst 0, 1) := by decide +kernel
theorem dX10_doomed_28 : decode cX10_doomed 28 = .ok (.ireturn, 1) := by decide +kernel
theorem dX10_doomed_29 : decode cX10_doomed 29 = .ok (.aload_n 0, 1) := by decide +kernel
theorem dX10_doomed_30 : decode cX10_doomed 30 = .ok (.getfield 85, 3) := by decide +kernel
theorem dX10_doomed_33 : decode cX10_doomed 33 = .ok (.aload_n 0, 1) := by decide +kernel
theorem dX10_doomed_34 : decode cX10_doomed 34 = .ok (.getfield 94, 3) := by decide +kernel
theorem dX10_doomed_37 : decode cX10_doomed 37 = .ok (.invokestatic 237, 3) := by decide +kernel
theorem dX10_doomed_40 : decode cX10_doomed 40 = .ok (.aload_n 0, 1) := by decide +kernel
theorem dX10_doomed_41 : decode cX10_doomed 41 = .ok (.aload_n 0, 1) := by decide +kernel
theorem dX10_doomed_42 : decode cX10_doomed 42 = .ok (.getfield 94, 3) := by decide +kernel
theorem dX10_doomed_45 : decode cX10_doomed 45 = .ok (.iload_n 1, 1) := by decide +kernel
theorem dX10_doomed_46 : decode cX10_doomed 46 = .ok (.invokevirtual 333, 3) := by decide +kernel
theorem dX10_doomed_49 : decode cX10_doomed 49 = .ok (.iconst 0, 1) := by decide +kernel
theorem dX10_doomed_50 : decode cX10_doomed 50 = .ok (.istore_n 2, 1) := by decide +kernel
theorem dX10_doomed_51 : decode cX10_doomed 51 = .ok (.iconst 0, 1) := by decide +kernel
theorem dX10_doomed_52 : decode cX10_doomed 52 = .ok (.istore_n 3, 1) := by decide +kernel
theorem dX10_doomed_53 : decode cX10_doomed 53 = .ok (.iload_n 3, 1) := by decide +kernel
theorem dX10_doomed_54 : decode cX10_doomed 54 = .ok (.aload_n 0, 1) := by decide +kernel
theorem dX10_doomed_55 : decode cX10_doomed 55 = .ok (.getfield 23, 3) := by decide +kernel
theorem dX10_doomed_58 : decode cX10_doomed 58 = .ok (.iconst 1, 1) := by decide +kernel
theorem dX10_doomed_59 : decode cX10_doomed 59 = .ok (.iaload, 1) := by decide +kernel
theorem dX10_doomed_60 : decode cX10_doomed 60 = .ok (.if_icmp .ge 43, 3) := by decide +kernel
theorem dX10_doomed_63 : decode cX10_doomed 63 = .ok (.iload_n 2, 1) := by decide +kernel
theorem dX10_doomed_64 : decode cX10_doomed 64 = .ok (.aload_n 0, 1) := by decide +kernel
theorem dX10_doomed_65 : decode cX10_doomed 65 = .ok (.getfield 94, 3) := by decide +kernel
theorem dX10_doomed_68 : decode cX10_doomed 68 = .ok (.iconst 0, 1) := by decide +kernel
theorem dX10_doomed_69 : decode cX10_doomed 69 = .ok (.iload_n 3, 1) := by decide +kernel
theorem dX10_doomed_70 : decode cX10_doomed 70 = .ok (.iadd, 1) := by decide +kernel
theorem dX10_doomed_71 : decode cX10_doomed 71 = .ok (.iaload, 1) := by decide +kernel
theorem dX10_doomed_72 : decode cX10_doomed 72 = .ok (.iconst 2, 1) := by decide +kernel
theorem dX10_doomed_73 : decode cX10_doomed 73 = .ok (.if_icmp .ne 21, 3) := by decide +kernel
theorem dX10_doomed_76 : decode cX10_doomed 76 = .ok (.aload_n 0, 1) := by decide +kernel
theorem dX10_doomed_77 : decode cX10_doomed 77 = .ok (.getfield 85, 3) := by decide +kernel
theorem dX10_doomed_80 : decode cX10_doomed 80 = .ok (.iconst 0, 1) := by decide +kernel
theorem dX10_doomed_81 : decode cX10_doomed 81 = .ok (.iload_n 3, 1) := by decide +kernel
theorem dX10_doomed_82 : decode cX10_doomed 82 = .ok (.iadd, 1) := by decide +kernel
theorem dX10_doomed_83 : decode cX10_doomed 83 = .ok (.iaload, 1) := by decide +kernel
theorem dX10_doomed_84 : decode cX10_doomed 84 = .ok (.iconst 2, 1) := by decide +kernel
theorem dX10_doomed_85 : decode cX10_doomed 85 = .ok (.if_icmp .eq 9, 3) := by decide +kernel
theorem dX10_doomed_88 : decode cX10_doomed 88 = .ok (.iconst 1, 1) := by decide +kernel
theorem dX10_doomed_89 : decode cX10_doomed 89 = .ok (.iload_n 3, 1) := by decide +kernel
theorem dX10_doomed_90 : decode cX10_doomed 90 = .ok (.ishl, 1) := by decide +kernel
theorem dX10_doomed_91 : decode cX10_doomed 91 = .ok (.goto 4, 3) := by decide +kernel
theorem dX10_doomed_94 : decode cX10_doomed 94 = .ok (.iconst 0, 1) := by decide +kernel
theorem dX10_doomed_95 : decode cX10_doomed 95 = .ok (.ior, 1) := by decide +kernel
theorem dX10_doomed_96 : decode cX10_doomed 96 = .ok (.istore_n 2, 1) := by decide +kernel
theorem dX10_doomed_97 : decode cX10_doomed 97 = .ok (.iinc 3 1, 3) := by decide +kernel
theorem dX10_doomed_100 : decode cX10_doomed 100 = .ok (.goto (-47), 3) := by decide +kernel
theorem dX10_doomed_103 : decode cX10_doomed 103 = .ok (.iload_n 2, 1) := by decide +kernel
theorem dX10_doomed_104 : decode cX10_doomed 104 = .ok (.ireturn, 1) := by decide +kernel
def fX10_doomed_53  : Nat → Nat → Int32 → Int32 → zV → Option (Int32 × zV)
  | 0 => fun _ _ _ _ => none
  | n + 1 => fun x0 x2 x3 v =>
    zix (1 : Int32) (zlen (zrf x0 12)) <|
    if (v (zrf x0 12) ((1 : Int32)).toNatClampNeg) ≤ x3 then
      some (x2, v)
    else
      zix ((0 : Int32) + x3) (zlen (zrf x0 38)) <|
      if (v (zrf x0 38) ((0 : Int32) + x3).toNatClampNeg) = (2 : Int32) then
        zix ((0 : Int32) + x3) (zlen (zrf x0 35)) <|
        if (v (zrf x0 35) ((0 : Int32) + x3).toNatClampNeg) = (2 : Int32) then
          (fX10_doomed_53 n) x0 (x2 ||| (0 : Int32)) (x3 + (1 : Int32)) v
        else
          (fX10_doomed_53 n) x0 (x2 ||| ((1 : Int32) <<< (x3 &&& 31))) (x3 + (1 : Int32)) v
      else
        (fX10_doomed_53 n) x0 (x2 ||| (0 : Int32)) (x3 + (1 : Int32)) v
set_option maxRecDepth 4000 in
theorem jX10_doomed_53 (x : zCx) (G : zG) (F : zF x G cX10_doomed 4 RX10 4 146) (hr : x.2.2.2.2.2.2.2.2.1.sig.returnType = (Option.some FieldType.int)) (hk : x.2.2.2.2.2.2.2.2.1.locks = false) (r : Int32) (w : zV)  : ∀ (n : Nat) (x0 : Nat) (t0 : zty G x0 1 10) (x2 : Int32) (x3 : Int32) (v : zV), fX10_doomed_53 n x0 x2 x3 v = some (r, w) → zJ x G 4 (zQ x G (some (.int r)) w 0 0) 0 0 53 [(0, zr G x0), (2, .int x2), (3, .int x3)] [] v := by
  intro n
  induction n with
  | zero => intro x0 t0 x2 x3 v h; exact absurd h (by intro q; cases q)
  | succ n ih =>
    intro x0 t0 x2 x3 v h
    rw [fX10_doomed_53] at h
    dsimp only at h
    refine z_iload_n F dX10_doomed_53 rfl 2 rfl ?_
    refine z_aload_n F dX10_doomed_54 rfl 0 rfl ?_
    refine zg_10_12 F t0 wF_X10_23 dX10_doomed_55 ?_
    refine z_iconst (y := (1 : Int32)) F dX10_doomed_58 rfl ?_
    obtain ⟨hi59, h⟩ := zix_ex h
    refine z_iald F (zt_f tc_10_12 t0) dX10_doomed_59 hi59 ?_
    refine z_icmp_ge F 103 dX10_doomed_60 rfl (fun hc => ?_) (fun hc => ?_)
    · replace h := zif_t hc h
      refine z_iload_n F dX10_doomed_103 rfl 1 rfl ?_
      cases h
      exact z_reti F hr hk dX10_doomed_104
    · replace h := zif_f hc h
      refine z_iload_n F dX10_doomed_63 rfl 1 rfl ?_
      refine z_aload_n F dX10_doomed_64 rfl 0 rfl ?_
      refine zg_10_38 F t0 wF_X10_94 dX10_doomed_65 ?_
      refine z_iconst (y := (0 : Int32)) F dX10_doomed_68 rfl ?_
      refine z_iload_n F dX10_doomed_69 rfl 2 rfl ?_
      refine z_iadd F dX10_doomed_70 ?_
      obtain ⟨hi71, h⟩ := zix_ex h
      refine z_iald F (zt_f tc_10_38 t0) dX10_doomed_71 hi71 ?_
      refine z_iconst (y := (2 : Int32)) F dX10_doomed_72 rfl ?_
      refine z_icmp_ne F 94 dX10_doomed_73 rfl (fun hc => ?_) (fun hc => ?_)
      · replace h := zif_f hc h
        refine z_iconst (y := (0 : Int32)) F dX10_doomed_94 rfl ?_
        refine z_ior F dX10_doomed_95 ?_
        refine z_istore_n F [(2, .int (x2 ||| (0 : Int32))), (0, zr G x0), (3, .int x3)] dX10_doomed_96 rfl (Nat.le_of_ble_eq_true rfl) rfl ?_
        refine z_iinc F [(3, .int (x3 + (1 : Int32))), (2, .int (x2 ||| (0 : Int32))), (0, zr G x0)] dX10_doomed_97 2 rfl rfl (Nat.le_of_ble_eq_true rfl) rfl ?_
        refine z_goto F 53 dX10_doomed_100 rfl ?_
        refine z_ls [(0, zr G x0), (2, .int (x2 ||| (0 : Int32))), (3, .int (x3 + (1 : Int32)))] [2, 1, 0] rfl ?_
        exact ih x0 t0 (x2 ||| (0 : Int32)) (x3 + (1 : Int32)) v h
      · replace h := zif_t hc h
        refine z_aload_n F dX10_doomed_76 rfl 0 rfl ?_
        refine zg_10_35 F t0 wF_X10_85 dX10_doomed_77 ?_
        refine z_iconst (y := (0 : Int32)) F dX10_doomed_80 rfl ?_
        refine z_iload_n F dX10_doomed_81 rfl 2 rfl ?_
        refine z_iadd F dX10_doomed_82 ?_
        obtain ⟨hi83, h⟩ := zix_ex h
        refine z_iald F (zt_f tc_10_35 t0) dX10_doomed_83 hi83 ?_
        refine z_iconst (y := (2 : Int32)) F dX10_doomed_84 rfl ?_
        refine z_icmp_eq F 94 dX10_doomed_85 rfl (fun hc => ?_) (fun hc => ?_)
        · replace h := zif_t hc h
          refine z_iconst (y := (0 : Int32)) F dX10_doomed_94 rfl ?_
          refine z_ior F dX10_doomed_95 ?_
          refine z_istore_n F [(2, .int (x2 ||| (0 : Int32))), (0, zr G x0), (3, .int x3)] dX10_doomed_96 rfl (Nat.le_of_ble_eq_true rfl) rfl ?_
          refine z_iinc F [(3, .int (x3 + (1 : Int32))), (2, .int (x2 ||| (0 : Int32))), (0, zr G x0)] dX10_doomed_97 2 rfl rfl (Nat.le_of_ble_eq_true rfl) rfl ?_
          refine z_goto F 53 dX10_doomed_100 rfl ?_
          refine z_ls [(0, zr G x0), (2, .int (x2 ||| (0 : Int32))), (3, .int (x3 + (1 : Int32)))] [2, 1, 0] rfl ?_
          exact ih x0 t0 (x2 ||| (0 : Int32)) (x3 + (1 : Int32)) v h
        · replace h := zif_f hc h
          refine z_iconst (y := (1 : Int32)) F dX10_doomed_88 rfl ?_
          refine z_iload_n F dX10_doomed_89 rfl 2 rfl ?_
          refine z_ishl F dX10_doomed_90 ?_
          refine z_goto F 95 dX10_doomed_91 rfl ?_
          refine z_ior F dX10_doomed_95 ?_
          refine z_istore_n F [(2, .int (x2 ||| ((1 : Int32) <<< (x3 &&& 31)))), (0, zr G x0), (3, .int x3)] dX10_doomed_96 rfl (Nat.le_of_ble_eq_true rfl) rfl ?_
          refine z_iinc F [(3, .int (x3 + (1 : Int32))), (2, .int (x2 ||| ((1 : Int32) <<< (x3 &&& 31)))), (0, zr G x0)] dX10_doomed_97 2 rfl rfl (Nat.le_of_ble_eq_true rfl) rfl ?_
          refine z_goto F 53 dX10_doomed_100 rfl ?_
          refine z_ls [(0, zr G x0), (2, .int (x2 ||| ((1 : Int32) <<< (x3 &&& 31)))), (3, .int (x3 + (1 : Int32)))] [2, 1, 0] rfl ?_
          exact ih x0 t0 (x2 ||| ((1 : Int32) <<< (x3 &&& 31))) (x3 + (1 : Int32)) v h

def fX10_doomed_19  (x0 : Nat) (x1 : Int32) (s0 : Nat) (s1 : Int32) (v : zV) : Option (Int32 × zV) :=
  zbind (fX10_bad s0 s1 (1 : Int32) (0 : Int32) v) fun r_2 v_1 =>
  if r_2 = (0 : Int32) then
    zbindv (fX10_copies (zrf x0 35) (zrf x0 38) v_1) fun v_3 =>
    zbindv (fX10_dies x0 (zrf x0 38) x1 v_3) fun v_4 =>
    fX10_doomed_53  zFU x0 (0 : Int32) (0 : Int32) v_4
  else
    some ((0 : Int32), v_1)
set_option maxRecDepth 4000 in
theorem jX10_doomed_19 (x : zCx) (G : zG) (F : zF x G cX10_doomed 4 RX10 4 146) (hr : x.2.2.2.2.2.2.2.2.1.sig.returnType = (Option.some FieldType.int)) (hk : x.2.2.2.2.2.2.2.2.1.locks = false) (r : Int32) (w : zV)  : ∀ (x0 : Nat) (t0 : zty G x0 1 10) (x1 : Int32) (s0 : Nat) (ts0 : zty G s0 1 10) (s1 : Int32) (v : zV), fX10_doomed_19 x0 x1 s0 s1 v = some (r, w) → zJ x G 4 (zQ x G (some (.int r)) w 0 0) 0 0 19 [(0, zr G x0), (1, .int x1)] [.int s1, zr G s0] v := by
  intro x0 t0 x1 s0 ts0 s1 v h
  unfold fX10_doomed_19 at h
  refine z_iconst (y := (1 : Int32)) F dX10_doomed_19 rfl ?_
  refine z_iconst (y := (0 : Int32)) F dX10_doomed_20 rfl ?_
  obtain ⟨r_2, v_1, hq21, h⟩ := zbind_ex h
  refine z_callVi F [.int s1, .int (1 : Int32), .int (0 : Int32)] [] (kX10_bad x.2.1 G s0 ts0 s1 (1 : Int32) (0 : Int32) v r_2 v_1 hq21) mI_X10_bad (c := 10) rfl ts0 wM_X10_220 mi_X10_bad sl_X10_bad dX10_doomed_21 rfl ⟨Nat.le_of_ble_eq_true rfl, Nat.le_of_ble_eq_true rfl⟩ rfl (Nat.le_of_ble_eq_true rfl) ⟨Nat.zero_le _, Nat.zero_le _⟩ ?_
  refine z_if_eq F 29 dX10_doomed_24 rfl (fun hc => ?_) (fun hc => ?_)
  · replace h := zif_t hc h
    refine z_aload_n F dX10_doomed_29 rfl 0 rfl ?_
    refine zg_10_35 F t0 wF_X10_85 dX10_doomed_30 ?_
    refine z_aload_n F dX10_doomed_33 rfl 0 rfl ?_
    refine zg_10_38 F t0 wF_X10_94 dX10_doomed_34 ?_
    obtain ⟨v_3, hq37, h⟩ := zbindv_ex h
    refine z_callSv F [zr G (zrf x0 35), zr G (zrf x0 38)] [] (kX10_copies x.2.1 G (zrf x0 35) (zt_f tc_10_35 t0) (zrf x0 38) (zt_f tc_10_38 t0) v_1 v_3 hq37) mI_X10_copies wM_X10_237 ms_X10_copies dX10_doomed_37 rfl ⟨Nat.le_of_ble_eq_true rfl, Nat.le_of_ble_eq_true rfl⟩ rfl (Nat.le_of_ble_eq_true rfl) ⟨Nat.zero_le _, Nat.zero_le _⟩ ?_
    refine z_aload_n F dX10_doomed_40 rfl 0 rfl ?_
    refine z_aload_n F dX10_doomed_41 rfl 0 rfl ?_
    refine zg_10_38 F t0 wF_X10_94 dX10_doomed_42 ?_
    refine z_iload_n F dX10_doomed_45 rfl 1 rfl ?_
    obtain ⟨v_4, hq46, h⟩ := zbindv_ex h
    refine z_callVv F [zr G (zrf x0 38), .int x1] [] (kX10_dies x.2.1 G x0 t0 (zrf x0 38) (zt_f tc_10_38 t0) x1 v_3 v_4 hq46) mI_X10_dies (c := 10) rfl t0 wM_X10_333 mi_X10_dies sl_X10_dies dX10_doomed_46 rfl ⟨Nat.le_of_ble_eq_true rfl, Nat.le_of_ble_eq_true rfl⟩ rfl (Nat.le_of_ble_eq_true rfl) ⟨Nat.zero_le _, Nat.zero_le _⟩ ?_
    refine z_iconst (y := (0 : Int32)) F dX10_doomed_49 rfl ?_
    refine z_istore_n F [(2, .int (0 : Int32)), (0, zr G x0), (1, .int x1)] dX10_doomed_50 rfl (Nat.le_of_ble_eq_true rfl) rfl ?_
    refine z_iconst (y := (0 : Int32)) F dX10_doomed_51 rfl ?_
    refine z_istore_n F [(3, .int (0 : Int32)), (2, .int (0 : Int32)), (0, zr G x0), (1, .int x1)] dX10_doomed_52 rfl (Nat.le_of_ble_eq_true rfl) rfl ?_
    refine z_ls [(0, zr G x0), (2, .int (0 : Int32)), (3, .int (0 : Int32))] [2, 1, 0] rfl ?_
    exact jX10_doomed_53 x G F hr hk r w   zFU x0 t0 (0 : Int32) (0 : Int32) v_4 h
  · replace h := zif_f hc h
    refine z_iconst (y := (0 : Int32)) F dX10_doomed_27 rfl ?_
    cases h
    exact z_reti F hr hk dX10_doomed_28

def fX10_doomed (x0 : Nat) (x1 : Int32) (v : zV) : Option (Int32 × zV) :=
  zlet (zup v x0 0 (0 : Int32)) fun v_1 =>
  zbind (fX10_isMan x0 x1 v_1) fun r_3 v_2 =>
  if r_3 = (0 : Int32) then
    fX10_doomed_19  x0 x1 x0 (1 : Int32) v_2
  else
    fX10_doomed_19  x0 x1 x0 (0 : Int32) v_2
set_option maxRecDepth 4000 in
theorem kX10_doomed (l : Launch) (G : zG) (x0 : Nat) (t0 : zty G x0 1 10) (x1 : Int32) (v : zV) (r : Int32) (w : zV) (h : fX10_doomed x0 x1 v = some (r, w)) : zMet l yX10_doomed cX10_doomed 4 (Option.some FieldType.int) 4 146 0 0 [zr G x0, .int x1] G v (some (.int r)) w := by
  refine zM_of (own := RX10) (by decide) rfl (Nat.le_of_ble_eq_true rfl) (fun x hl F hr hk hcs => ?_)
  subst hl
  refine z_ls [(0, zr G x0), (1, .int x1)] [0, 1] rfl ?_
  unfold fX10_doomed at h
  refine z_aload_n F dX10_doomed_0 rfl 0 rfl ?_
  refine z_iconst (y := (0 : Int32)) F dX10_doomed_1 rfl ?_
  refine zp_10_0 F t0 wF_X10_134 dX10_doomed_2 ?_
  obtain ⟨v_1, ev_1, h⟩ := zlet_ex h
  refine z_heap ev_1 ?_
  refine z_aload_n F dX10_doomed_5 rfl 0 rfl ?_
  refine z_aload_n F dX10_doomed_6 rfl 0 rfl ?_
  refine z_iload_n F dX10_doomed_7 rfl 1 rfl ?_
  obtain ⟨r_3, v_2, hq8, h⟩ := zbind_ex h
  refine z_callVi F [.int x1] [zr G x0] (kX10_isMan x.2.1 G x0 t0 x1 v_1 r_3 v_2 hq8) mI_X10_isMan (c := 10) rfl t0 wM_X10_298 mi_X10_isMan sl_X10_isMan dX10_doomed_8 rfl ⟨Nat.le_of_ble_eq_true rfl, Nat.le_of_ble_eq_true rfl⟩ rfl (Nat.le_of_ble_eq_true rfl) ⟨Nat.zero_le _, Nat.zero_le _⟩ ?_
  refine z_if_ne F 18 dX10_doomed_11 rfl (fun hc => ?_) (fun hc => ?_)
  · replace h := zif_f hc h
    refine z_iconst (y := (0 : Int32)) F dX10_doomed_18 rfl ?_
    refine z_ls [(0, zr G x0), (1, .int x1)] [0, 1] rfl ?_
    exact jX10_doomed_19 x G F hr hk r w   x0 t0 x1 x0 t0 (0 : Int32) v_2 h
  · replace h := zif_t hc h
    refine z_iconst (y := (1 : Int32)) F dX10_doomed_14 rfl ?_
    refine z_goto F 19 dX10_doomed_15 rfl ?_
    refine z_ls [(0, zr G x0), (1, .int x1)] [0, 1] rfl ?_
    exact jX10_doomed_19 x G F hr hk r w   x0 t0 x1 x0 t0 (1 : Int32) v_2 h

theorem dX10_hopesFor_0 : decode cX10_hopesFor 0 = .ok (.iload 4, 2) := by decide +kernel
theorem dX10_hopesFor_2 : decode cX10_hopesFor 2 = .ok (.iload_n 2, 1) := by decide +kernel
theorem dX10_hopesFor_3 : decode cX10_hopesFor 3 = .ok (.if_icmp .ne 39, 3) := by decide +kernel
theorem dX10_hopesFor_6 : decode cX10_hopesFor 6 = .ok (.iload 7, 2) := by decide +kernel
theorem dX10_hopesFor_8 : decode cX10_hopesFor 8 = .ok (.ifCond .eq 20, 3) := by decide +kernel
theorem dX10_hopesFor_11 : decode cX10_hopesFor 11 = .ok (.aload_n 0, 1) := by decide +kernel
theorem dX10_hopesFor_12 : decode cX10_hopesFor 12 = .ok (.getfield 365, 3) := by decide +kernel
theorem dX10_hopesFor_15 : decode cX10_hopesFor 15 = .ok (.iconst (-1), 1) := by decide +kernel
theorem dX10_hopesFor_16 : decode cX10_hopesFor 16 = .ok (.if_icmp .eq 13, 3) := by decide +kernel
theorem dX10_hopesFor_19 : decode cX10_hopesFor 19 = .ok (.iload 5, 2) := by decide +kernel
theorem dX10_hopesFor_21 : decode cX10_hopesFor 21 = .ok (.aload_n 0, 1) := by decide +kernel
theorem dX10_hopesFor_22 : decode cX10_hopesFor 22 = .ok (.getfield 365, 3) := by decide +kernel
theorem dX10_hopesFor_25 : decode cX10_hopesFor 25 = .ok (.if_icmp .lt 4, 3) := by decide +kernel
theorem dX10_hopesFor_28 : decode cX10_hopesFor 28 = .ok (.return_, 1) := by decide +kernel
theorem dX10_hopesFor_29 : decode cX10_hopesFor 29 = .ok (.aload_n 0, 1) := by decide +kernel
theorem dX10_hopesFor_30 : decode cX10_hopesFor 30 = .ok (.iload 5, 2) := by decide +kernel
theorem dX10_hopesFor_32 : decode cX10_hopesFor 32 = .ok (.putfield 365, 3) := by decide +kernel
theorem dX10_hopesFor_35 : decode cX10_hopesFor 35 = .ok (.aload_n 0, 1) := by decide +kernel
theorem dX10_hopesFor_36 : decode cX10_hopesFor 36 = .ok (.iload 6, 2) := by decide +kernel
theorem dX10_hopesFor_38 : decode cX10_hopesFor 38 = .ok (.putfield 368, 3) := by decide +kernel
theorem dX10_hopesFor_41 : decode cX10_hopesFor 41 = .ok (.return_, 1) := by decide +kernel
theorem dX10_hopesFor_42 : decode cX10_hopesFor 42 = .ok (.iconst (-1), 1) := by decide +kernel
theorem dX10_hopesFor_43 : decode cX10_hopesFor 43 = .ok (.istore 8, 2) := by decide +kernel
theorem dX10_hopesFor_45 : decode cX10_hopesFor 45 = .ok (.iload 8, 2) := by decide +kernel
theorem dX10_hopesFor_47 : decode cX10_hopesFor 47 = .ok (.aload_n 0, 1) := by decide +kernel
theorem dX10_hopesFor_48 : decode cX10_hopesFor 48 = .ok (.getfield 23, 3) := by decide +kernel
theorem dX10_hopesFor_51 : decode cX10_hopesFor 51 = .ok (.iconst 1, 1) := by decide +kernel
theorem dX10_hopesFor_52 : decode cX10_hopesFor 52 = .ok (.iaload, 1) := by decide +kernel
theorem dX10_hopesFor_53 : decode cX10_hopesFor 53 = .ok (.if_icmp .ge 165, 3) := by decide +kernel
theorem dX10_hopesFor_56 : decode cX10_hopesFor 56 = .ok (.iload 8, 2) := by decide +kernel
theorem dX10_hopesFor_58 : decode cX10_hopesFor 58 = .ok (.iconst (-1), 1) := by decide +kernel
theorem dX10_hopesFor_59 : decode cX10_hopesFor 59 = .ok (.if_icmp .eq 21, 3) := by decide +kernel
theorem dX10_hopesFor_62 : decode cX10_hopesFor 62 = .ok (.aload_n 0, 1) := by decide +kernel
theorem dX10_hopesFor_63 : decode cX10_hopesFor 63 = .ok (.getfield 109, 3) := by decide +kernel
theorem dX10_hopesFor_66 : decode cX10_hopesFor 66 = .ok (.iload 4, 2) := by decide +kernel
theorem dX10_hopesFor_68 : decode cX10_hopesFor 68 = .ok (.aaload, 1) := by decide +kernel
theorem dX10_hopesFor_69 : decode cX10_hopesFor 69 = .ok (.iconst 0, 1) := by decide +kernel
theorem dX10_hopesFor_70 : decode cX10_hopesFor 70 = .ok (.iload 8, 2) := by decide +kernel
theorem dX10_hopesFor_72 : decode cX10_hopesFor 72 = .ok (.iadd, 1) := by decide +kernel
theorem dX10_hopesFor_73 : decode cX10_hopesFor 73 = .ok (.iaload, 1) := by decide +kernel
theorem dX10_hopesFor_74 : decode cX10_hopesFor 74 = .ok (.ifCond .eq 6, 3) := by decide +kernel
theorem dX10_hopesFor_77 : decode cX10_hopesFor 77 = .ok (.goto 135, 3) := by decide +kernel
theorem dX10_hopesFor_80 : decode cX10_hopesFor 80 = .ok (.aload_n 0, 1) := by decide +kernel
theorem dX10_hopesFor_81 : decode cX10_hopesFor 81 = .ok (.getfield 109, 3) := by decide +kernel
theorem dX10_hopesFor_84 : decode cX10_hopesFor 84 = .ok (.iload 4, 2) := by decide +kernel
theorem dX10_hopesFor_86 : decode cX10_hopesFor 86 = .ok (.aaload, 1) := by decide +kernel
theorem dX10_hopesFor_87 : decode cX10_hopesFor 87 = .ok (.aload_n 0, 1) := by decide +kernel
theorem dX10_hopesFor_88 : decode cX10_hopesFor 88 = .ok (.getfield 109, 3) := by decide +kernel
theorem dX10_hopesFor_91 : decode cX10_hopesFor 91 = .ok (.iload 4, 2) := by decide +kernel
theorem dX10_hopesFor_93 : decode cX10_hopesFor 93 = .ok (.iconst 1, 1) := by decide +kernel
theorem dX10_hopesFor_94 : decode cX10_hopesFor 94 = .ok (.iadd, 1) := by decide +kernel
theorem dX10_hopesFor_95 : decode cX10_hopesFor 95 = .ok (.aaload, 1) := by decide +kernel
theorem dX10_hopesFor_96 : decode cX10_hopesFor 96 = .ok (.invokestatic 237, 3) := by decide +kernel
theorem dX10_hopesFor_99 : decode cX10_hopesFor 99 = .ok (.aload_n 0, 1) := by decide +kernel
theorem dX10_hopesFor_100 : decode cX10_hopesFor 100 = .ok (.getfield 100, 3) := by decide +kernel
theorem dX10_hopesFor_103 : decode cX10_hopesFor 103 = .ok (.iconst 0, 1) := by decide +kernel
theorem dX10_hopesFor_104 : decode cX10_hopesFor 104 = .ok (.aaload, 1) := by decide +kernel
theorem dX10_hopesFor_105 : decode cX10_hopesFor 105 = .ok (.iconst 0, 1) := by decide +kernel
theorem dX10_hopesFor_106 : decode cX10_hopesFor 106 = .ok (.aload_n 0, 1) := by decide +kernel
theorem dX10_hopesFor_107 : decode cX10_hopesFor 107 = .ok (.getfield 109, 3) := by decide +kernel
theorem dX10_hopesFor_110 : decode cX10_hopesFor 110 = .ok (.iload 4, 2) := by decide +kernel
theorem dX10_hopesFor_112 : decode cX10_hopesFor 112 = .ok (.aaload, 1) := by decide +kernel
theorem dX10_hopesFor_113 : decode cX10_hopesFor 113 = .ok (.bipush 99, 2) := by decide +kernel
theorem dX10_hopesFor_115 : decode cX10_hopesFor 115 = .ok (.iaload, 1) := by decide +kernel
theorem dX10_hopesFor_116 : decode cX10_hopesFor 116 = .ok (.iastore, 1) := by decide +kernel
theorem dX10_hopesFor_117 : decode cX10_hopesFor 117 = .ok (.aload_n 0, 1) := by decide +kernel
theorem dX10_hopesFor_118 : decode cX10_hopesFor 118 = .ok (.getfield 100, 3) := by decide +kernel
theorem dX10_hopesFor_121 : decode cX10_hopesFor 121 = .ok (.iconst 0, 1) := by decide +kernel
theorem dX10_hopesFor_122 : decode cX10_hopesFor 122 = .ok (.aaload, 1) := by decide +kernel
theorem dX10_hopesFor_123 : decode cX10_hopesFor 123 = .ok (.iconst 1, 1) := by decide +kernel
theorem dX10_hopesFor_124 : decode cX10_hopesFor 124 = .ok (.iload 8, 2) := by decide +kernel
theorem dX10_hopesFor_126 : decode cX10_hopesFor 126 = .ok (.iastore, 1) := by decide +kernel
theorem dX10_hopesFor_127 : decode cX10_hopesFor 127 = .ok (.aload_n 0, 1) := by decide +kernel
theorem dX10_hopesFor_128 : decode cX10_hopesFor 128 = .ok (.getfield 100, 3) := by decide +kernel
theorem dX10_hopesFor_131 : decode cX10_hopesFor 131 = .ok (.iconst 0, 1) := by decide +kernel
theorem dX10_hopesFor_132 : decode cX10_hopesFor 132 = .ok (.aaload, 1) := by decide +kernel
theorem dX10_hopesFor_133 : decode cX10_hopesFor 133 = .ok (.iconst 2, 1) := by decide +kernel
theorem dX10_hopesFor_134 : decode cX10_hopesFor 134 = .ok (.iload_n 3, 1) := by decide +kernel
theorem dX10_hopesFor_135 : decode cX10_hopesFor 135 = .ok (.iastore, 1) := by decide +kernel
theorem dX10_hopesFor_136 : decode cX10_hopesFor 136 = .ok (.aload_n 0, 1) := by decide +kernel
theorem dX10_hopesFor_137 : decode cX10_hopesFor 137 = .ok (.iconst 1, 1) := by decide +kernel
theorem dX10_hopesFor_138 : decode cX10_hopesFor 138 = .ok (.putfield 310, 3) := by decide +kernel
theorem dX10_hopesFor_141 : decode cX10_hopesFor 141 = .ok (.aload_n 0, 1) := by decide +kernel
theorem dX10_hopesFor_142 : decode cX10_hopesFor 142 = .ok (.aload_n 0, 1) := by decide +kernel
theorem dX10_hopesFor_143 : decode cX10_hopesFor 143 = .ok (.getfield 109, 3) := by decide +kernel
theorem dX10_hopesFor_146 : decode cX10_hopesFor 146 = .ok (.iload 4, 2) := by decide +kernel
theorem dX10_hopesFor_148 : decode cX10_hopesFor 148 = .ok (.iconst 1, 1) := by decide +kernel
theorem dX10_hopesFor_149 : decode cX10_hopesFor 149 = .ok (.iadd, 1) := by decide +kernel
theorem dX10_hopesFor_150 : decode cX10_hopesFor 150 = .ok (.aaload, 1) := by decide +kernel
theorem dX10_hopesFor_151 : decode cX10_hopesFor 151 = .ok (.invokevirtual 359, 3) := by decide +kernel
theorem dX10_hopesFor_154 : decode cX10_hopesFor 154 = .ok (.aload_n 0, 1) := by decide +kernel
theorem dX10_hopesFor_155 : decode cX10_hopesFor 155 = .ok (.iconst 0, 1) := by decide +kernel
theorem dX10_hopesFor_156 : decode cX10_hopesFor 156 = .ok (.putfield 310, 3) := by decide +kernel
theorem dX10_hopesFor_159 : decode cX10_hopesFor 159 = .ok (.aload_n 0, 1) := by decide +kernel
theorem dX10_hopesFor_160 : decode cX10_hopesFor 160 = .ok (.iload_n 1, 1) := by decide +kernel
theorem dX10_hopesFor_161 : decode cX10_hopesFor 161 = .ok (.iload_n 2, 1) := by decide +kernel
theorem dX10_hopesFor_162 : decode cX10_hopesFor 162 = .ok (.iload_n 3, 1) := by decide +kernel
theorem dX10_hopesFor_163 : decode cX10_hopesFor 163 = .ok (.iload 4, 2) := by decide +kernel
theorem dX10_hopesFor_165 : decode cX10_hopesFor 165 = .ok (.iconst 1, 1) := by decide +kernel
theorem dX10_hopesFor_166 : decode cX10_hopesFor 166 = .ok (.iadd, 1) := by decide +kernel
theorem dX10_hopesFor_167 : decode cX10_hopesFor 167 = .ok (.iload 5, 2) := by decide +kernel
theorem dX10_hopesFor_169 : decode cX10_hopesFor 169 = .ok (.iload 8, 2) := by decide +kernel
theorem dX10_hopesFor_171 : decode cX10_hopesFor 171 = .ok (.iconst (-1), 1) := by decide +kernel
theorem dX10_hopesFor_172 : decode cX10_hopesFor 172 = .ok (.if_icmp .ne 7, 3) := by decide +kernel
theorem dX10_hopesFor_175 : decode cX10_hopesFor 175 = .ok (.iconst 0, 1) := by decide +kernel
theorem dX10_hopesFor_176 : decode cX10_hopesFor 176 = .ok (.goto 4, 3) := by decide +kernel
theorem dX10_hopesFor_179 : decode cX10_hopesFor 179 = .ok (.iconst 1, 1) := by decide +kernel
theorem dX10_hopesFor_180 : decode cX10_hopesFor 180 = .ok (.iadd, 1) := by decide +kernel
theorem dX10_hopesFor_181 : decode cX10_hopesFor 181 = .ok (.bipush 100, 2) := by decide +kernel
theorem dX10_hopesFor_183 : decode cX10_hopesFor 183 = .ok (.iload 6, 2) := by decide +kernel
theorem dX10_hopesFor_185 : decode cX10_hopesFor 185 = .ok (.imul, 1) := by decide +kernel
theorem dX10_hopesFor_186 : decode cX10_hopesFor 186 = .ok (.iload 8, 2) := by decide +kernel
theorem dX10_hopesFor_188 : decode cX10_hopesFor 188 = .ok (.iadd, 1) := by decide +kernel
theorem dX10_hopesFor_189 : decode cX10_hopesFor 189 = .ok (.iconst 1, 1) := by decide +kernel
theorem dX10_hopesFor_190 : decode cX10_hopesFor 190 = .ok (.iadd, 1) := by decide +kernel
theorem dX10_hopesFor_191 : decode cX10_hopesFor 191 = .ok (.iload 7, 2) := by decide +kernel
theorem dX10_hopesFor_193 : decode cX10_hopesFor 193 = .ok (.ifCond .ne 11, 3) := by decide +kernel
theorem dX10_hopesFor_196 : decode cX10_hopesFor 196 = .ok (.aload_n 0, 1) := by decide +kernel
theorem dX10_hopesFor_197 : decode cX10_hopesFor 197 = .ok (.getfield 356, 3) := by decide +kernel
theorem dX10_hopesFor_200 : decode cX10_hopesFor 200 = .ok (.iload_n 1, 1) := by decide +kernel
theorem dX10_hopesFor_201 : decode cX10_hopesFor 201 = .ok (.if_icmp .ne 7, 3) := by decide +kernel
theorem dX10_hopesFor_204 : decode cX10_hopesFor 204 = .ok (.iconst 1, 1) := by decide +kernel
theorem dX10_hopesFor_205 : decode cX10_hopesFor 205 = .ok (.goto 4, 3) := by decide +kernel
theorem dX10_hopesFor_208 : decode cX10_hopesFor 208 = .ok (.iconst 0, 1) := by decide +kernel
theorem dX10_hopesFor_209 : decode cX10_hopesFor 209 = .ok (.invokevirtual 371, 3) := by decide +kernel
theorem dX10_hopesFor_212 : decode cX10_hopesFor 212 = .ok (.iinc 8 1, 3) := by decide +kernel
theorem dX10_hopesFor_215 : decode cX10_hopesFor 215 = .ok (.goto (-170), 3) := by decide +kernel
theorem dX10_hopesFor_218 : decode cX10_hopesFor 218 = .ok (.return_, 1) := by decide +kernel
def fX10_hopesFor_180 (RC : Nat → Int32 → Int32 → Int32 → Int32 → Int32 → Int32 → Int32 → zV → Option zV) (K45 : Nat → Int32 → Int32 → Int32 → Int32 → Int32 → Int32 → Int32 → Int32 → zV → Option zV) (x0 : Nat) (x1 : Int32) (x2 : Int32) (x3 : Int32) (x4 : Int32) (x5 : Int32) (x6 : Int32) (x7 : Int32) (x8 : Int32) (s0 : Nat) (s1 : Int32) (s2 : Int32) (s3 : Int32) (s4 : Int32) (s5 : Int32) (s6 : Int32) (v : zV) : Option zV :=
  if x7 = (0 : Int32) then
    if (v x0 50) = x1 then
      zbindv (RC s0 s1 s2 s3 s4 (s5 + s6) ((((100 : Int32) * x6) + x8) + (1 : Int32)) (1 : Int32) v) fun v_3 =>
      K45 x0 x1 x2 x3 x4 x5 x6 x7 (x8 + (1 : Int32)) v_3
    else
      zbindv (RC s0 s1 s2 s3 s4 (s5 + s6) ((((100 : Int32) * x6) + x8) + (1 : Int32)) (0 : Int32) v) fun v_2 =>
      K45 x0 x1 x2 x3 x4 x5 x6 x7 (x8 + (1 : Int32)) v_2
  else
    zbindv (RC s0 s1 s2 s3 s4 (s5 + s6) ((((100 : Int32) * x6) + x8) + (1 : Int32)) (1 : Int32) v) fun v_1 =>
    K45 x0 x1 x2 x3 x4 x5 x6 x7 (x8 + (1 : Int32)) v_1
set_option maxRecDepth 4000 in
theorem jX10_hopesFor_180 (x : zCx) (G : zG) (fr0 lo0 : Nat) (RC : Nat → Int32 → Int32 → Int32 → Int32 → Int32 → Int32 → Int32 → zV → Option zV) (hRC : ∀ (l : Launch) (x0 : Nat) (t0 : zty G x0 1 10) (x1 : Int32) (x2 : Int32) (x3 : Int32) (x4 : Int32) (x5 : Int32) (x6 : Int32) (x7 : Int32) (v : zV) (w : zV), RC x0 x1 x2 x3 x4 x5 x6 x7 v = some w → zMet l yX10_hopesFor cX10_hopesFor 9 (Option.none : Option FieldType) fr0 lo0 0 0 [zr G x0, .int x1, .int x2, .int x3, .int x4, .int x5, .int x6, .int x7] G v none w) (F : zF x G cX10_hopesFor 9 RX10 (fr0 + 7) (lo0 + 215)) (hr : x.2.2.2.2.2.2.2.2.1.sig.returnType = (Option.none : Option FieldType)) (hk : x.2.2.2.2.2.2.2.2.1.locks = false) (w : zV) (K45 : Nat → Int32 → Int32 → Int32 → Int32 → Int32 → Int32 → Int32 → Int32 → zV → Option zV) (hK45 : ∀ (x0 : Nat) (t0 : zty G x0 1 10) (x1 : Int32) (x2 : Int32) (x3 : Int32) (x4 : Int32) (x5 : Int32) (x6 : Int32) (x7 : Int32) (x8 : Int32) (v : zV), K45 x0 x1 x2 x3 x4 x5 x6 x7 x8 v = some w → zJ x G 9 (zQ x G none w 0 0) 0 0 45 [(0, zr G x0), (1, .int x1), (2, .int x2), (3, .int x3), (4, .int x4), (5, .int x5), (6, .int x6), (7, .int x7), (8, .int x8)] [] v) : ∀ (x0 : Nat) (t0 : zty G x0 1 10) (x1 : Int32) (x2 : Int32) (x3 : Int32) (x4 : Int32) (x5 : Int32) (x6 : Int32) (x7 : Int32) (x8 : Int32) (s0 : Nat) (ts0 : zty G s0 1 10) (s1 : Int32) (s2 : Int32) (s3 : Int32) (s4 : Int32) (s5 : Int32) (s6 : Int32) (v : zV), fX10_hopesFor_180 RC K45 x0 x1 x2 x3 x4 x5 x6 x7 x8 s0 s1 s2 s3 s4 s5 s6 v = some w → zJ x G 9 (zQ x G none w 0 0) 0 0 180 [(0, zr G x0), (1, .int x1), (2, .int x2), (3, .int x3), (4, .int x4), (5, .int x5), (6, .int x6), (7, .int x7), (8, .int x8)] [.int s6, .int s5, .int s4, .int s3, .int s2, .int s1, zr G s0] v := by
  intro x0 t0 x1 x2 x3 x4 x5 x6 x7 x8 s0 ts0 s1 s2 s3 s4 s5 s6 v h
  unfold fX10_hopesFor_180 at h
  refine z_iadd F dX10_hopesFor_180 ?_
  refine z_bipush (y := (100 : Int32)) F dX10_hopesFor_181 rfl ?_
  refine z_iload F dX10_hopesFor_183 6 rfl ?_
  refine z_imul F dX10_hopesFor_185 ?_
  refine z_iload F dX10_hopesFor_186 8 rfl ?_
  refine z_iadd F dX10_hopesFor_188 ?_
  refine z_iconst (y := (1 : Int32)) F dX10_hopesFor_189 rfl ?_
  refine z_iadd F dX10_hopesFor_190 ?_
  refine z_iload F dX10_hopesFor_191 7 rfl ?_
  refine z_if_ne F 204 dX10_hopesFor_193 rfl (fun hc => ?_) (fun hc => ?_)
  · replace h := zif_f hc h
    refine z_iconst (y := (1 : Int32)) F dX10_hopesFor_204 rfl ?_
    refine z_goto F 209 dX10_hopesFor_205 rfl ?_
    obtain ⟨v_1, hq209, h⟩ := zbindv_ex h
    refine z_callVv F [.int s1, .int s2, .int s3, .int s4, .int (s5 + s6), .int ((((100 : Int32) * x6) + x8) + (1 : Int32)), .int (1 : Int32)] [] (hRC x.2.1 s0 ts0 s1 s2 s3 s4 (s5 + s6) ((((100 : Int32) * x6) + x8) + (1 : Int32)) (1 : Int32) v v_1 hq209) mI_X10_hopesFor (c := 10) rfl ts0 wM_X10_371 mi_X10_hopesFor sl_X10_hopesFor dX10_hopesFor_209 rfl ⟨by omega, by omega⟩ rfl (Nat.le_of_ble_eq_true rfl) ⟨Nat.zero_le _, Nat.zero_le _⟩ ?_
    refine z_iinc F [(8, .int (x8 + (1 : Int32))), (0, zr G x0), (1, .int x1), (2, .int x2), (3, .int x3), (4, .int x4), (5, .int x5), (6, .int x6), (7, .int x7)] dX10_hopesFor_212 8 rfl rfl (Nat.le_of_ble_eq_true rfl) rfl ?_
    refine z_goto F 45 dX10_hopesFor_215 rfl ?_
    refine z_ls [(0, zr G x0), (1, .int x1), (2, .int x2), (3, .int x3), (4, .int x4), (5, .int x5), (6, .int x6), (7, .int x7), (8, .int (x8 + (1 : Int32)))] [1, 2, 3, 4, 5, 6, 7, 8, 0] rfl ?_
    exact hK45 x0 t0 x1 x2 x3 x4 x5 x6 x7 (x8 + (1 : Int32)) v_1 h
  · replace h := zif_t hc h
    refine z_aload_n F dX10_hopesFor_196 rfl 0 rfl ?_
    refine zg_10_50 F t0 wF_X10_356 dX10_hopesFor_197 ?_
    refine z_iload_n F dX10_hopesFor_200 rfl 1 rfl ?_
    refine z_icmp_ne F 208 dX10_hopesFor_201 rfl (fun hc => ?_) (fun hc => ?_)
    · replace h := zif_f hc h
      refine z_iconst (y := (0 : Int32)) F dX10_hopesFor_208 rfl ?_
      obtain ⟨v_2, hq209, h⟩ := zbindv_ex h
      refine z_callVv F [.int s1, .int s2, .int s3, .int s4, .int (s5 + s6), .int ((((100 : Int32) * x6) + x8) + (1 : Int32)), .int (0 : Int32)] [] (hRC x.2.1 s0 ts0 s1 s2 s3 s4 (s5 + s6) ((((100 : Int32) * x6) + x8) + (1 : Int32)) (0 : Int32) v v_2 hq209) mI_X10_hopesFor (c := 10) rfl ts0 wM_X10_371 mi_X10_hopesFor sl_X10_hopesFor dX10_hopesFor_209 rfl ⟨by omega, by omega⟩ rfl (Nat.le_of_ble_eq_true rfl) ⟨Nat.zero_le _, Nat.zero_le _⟩ ?_
      refine z_iinc F [(8, .int (x8 + (1 : Int32))), (0, zr G x0), (1, .int x1), (2, .int x2), (3, .int x3), (4, .int x4), (5, .int x5), (6, .int x6), (7, .int x7)] dX10_hopesFor_212 8 rfl rfl (Nat.le_of_ble_eq_true rfl) rfl ?_
      refine z_goto F 45 dX10_hopesFor_215 rfl ?_
      refine z_ls [(0, zr G x0), (1, .int x1), (2, .int x2), (3, .int x3), (4, .int x4), (5, .int x5), (6, .int x6), (7, .int x7), (8, .int (x8 + (1 : Int32)))] [1, 2, 3, 4, 5, 6, 7, 8, 0] rfl ?_
      exact hK45 x0 t0 x1 x2 x3 x4 x5 x6 x7 (x8 + (1 : Int32)) v_2 h
    · replace h := zif_t hc h
      refine z_iconst (y := (1 : Int32)) F dX10_hopesFor_204 rfl ?_
      refine z_goto F 209 dX10_hopesFor_205 rfl ?_
      obtain ⟨v_3, hq209, h⟩ := zbindv_ex h
      refine z_callVv F [.int s1, .int s2, .int s3, .int s4, .int (s5 + s6), .int ((((100 : Int32) * x6) + x8) + (1 : Int32)), .int (1 : Int32)] [] (hRC x.2.1 s0 ts0 s1 s2 s3 s4 (s5 + s6) ((((100 : Int32) * x6) + x8) + (1 : Int32)) (1 : Int32) v v_3 hq209) mI_X10_hopesFor (c := 10) rfl ts0 wM_X10_371 mi_X10_hopesFor sl_X10_hopesFor dX10_hopesFor_209 rfl ⟨by omega, by omega⟩ rfl (Nat.le_of_ble_eq_true rfl) ⟨Nat.zero_le _, Nat.zero_le _⟩ ?_
      refine z_iinc F [(8, .int (x8 + (1 : Int32))), (0, zr G x0), (1, .int x1), (2, .int x2), (3, .int x3), (4, .int x4), (5, .int x5), (6, .int x6), (7, .int x7)] dX10_hopesFor_212 8 rfl rfl (Nat.le_of_ble_eq_true rfl) rfl ?_
      refine z_goto F 45 dX10_hopesFor_215 rfl ?_
      refine z_ls [(0, zr G x0), (1, .int x1), (2, .int x2), (3, .int x3), (4, .int x4), (5, .int x5), (6, .int x6), (7, .int x7), (8, .int (x8 + (1 : Int32)))] [1, 2, 3, 4, 5, 6, 7, 8, 0] rfl ?_
      exact hK45 x0 t0 x1 x2 x3 x4 x5 x6 x7 (x8 + (1 : Int32)) v_3 h

def fX10_hopesFor_80 (RC : Nat → Int32 → Int32 → Int32 → Int32 → Int32 → Int32 → Int32 → zV → Option zV) (K45 : Nat → Int32 → Int32 → Int32 → Int32 → Int32 → Int32 → Int32 → Int32 → zV → Option zV) (x0 : Nat) (x1 : Int32) (x2 : Int32) (x3 : Int32) (x4 : Int32) (x5 : Int32) (x6 : Int32) (x7 : Int32) (x8 : Int32) (v : zV) : Option zV :=
  zix x4 (zlen (zrf x0 51)) <|
  zix (x4 + (1 : Int32)) (zlen (zrf x0 51)) <|
  zbindv (fX10_copies (zrf (zrf x0 51) (x4).toNatClampNeg) (zrf (zrf x0 51) (x4 + (1 : Int32)).toNatClampNeg) v) fun v_1 =>
  zix (0 : Int32) (zlen (zrf x0 43)) <|
  zix x4 (zlen (zrf x0 51)) <|
  zix (99 : Int32) (zlen (zrf (zrf x0 51) (x4).toNatClampNeg)) <|
  zix (0 : Int32) (zlen (zrf (zrf x0 43) ((0 : Int32)).toNatClampNeg)) <|
  zlet (zup v_1 (zrf (zrf x0 43) ((0 : Int32)).toNatClampNeg) ((0 : Int32)).toNatClampNeg (v_1 (zrf (zrf x0 51) (x4).toNatClampNeg) ((99 : Int32)).toNatClampNeg)) fun v_2 =>
  zix (0 : Int32) (zlen (zrf x0 43)) <|
  zix (1 : Int32) (zlen (zrf (zrf x0 43) ((0 : Int32)).toNatClampNeg)) <|
  zlet (zup v_2 (zrf (zrf x0 43) ((0 : Int32)).toNatClampNeg) ((1 : Int32)).toNatClampNeg x8) fun v_3 =>
  zix (0 : Int32) (zlen (zrf x0 43)) <|
  zix (2 : Int32) (zlen (zrf (zrf x0 43) ((0 : Int32)).toNatClampNeg)) <|
  zlet (zup v_3 (zrf (zrf x0 43) ((0 : Int32)).toNatClampNeg) ((2 : Int32)).toNatClampNeg x3) fun v_4 =>
  zlet (zup v_4 x0 44 (1 : Int32)) fun v_5 =>
  zix (x4 + (1 : Int32)) (zlen (zrf x0 51)) <|
  zbindv (fX10_goes x0 (zrf (zrf x0 51) (x4 + (1 : Int32)).toNatClampNeg) v_5) fun v_6 =>
  zlet (zup v_6 x0 44 (0 : Int32)) fun v_7 =>
  if x8 = (-1 : Int32) then
    fX10_hopesFor_180 RC K45 x0 x1 x2 x3 x4 x5 x6 x7 x8 x0 x1 x2 x3 (x4 + (1 : Int32)) x5 (0 : Int32) v_7
  else
    fX10_hopesFor_180 RC K45 x0 x1 x2 x3 x4 x5 x6 x7 x8 x0 x1 x2 x3 (x4 + (1 : Int32)) x5 (1 : Int32) v_7
set_option maxRecDepth 4000 in
theorem jX10_hopesFor_80 (x : zCx) (G : zG) (fr0 lo0 : Nat) (RC : Nat → Int32 → Int32 → Int32 → Int32 → Int32 → Int32 → Int32 → zV → Option zV) (hRC : ∀ (l : Launch) (x0 : Nat) (t0 : zty G x0 1 10) (x1 : Int32) (x2 : Int32) (x3 : Int32) (x4 : Int32) (x5 : Int32) (x6 : Int32) (x7 : Int32) (v : zV) (w : zV), RC x0 x1 x2 x3 x4 x5 x6 x7 v = some w → zMet l yX10_hopesFor cX10_hopesFor 9 (Option.none : Option FieldType) fr0 lo0 0 0 [zr G x0, .int x1, .int x2, .int x3, .int x4, .int x5, .int x6, .int x7] G v none w) (F : zF x G cX10_hopesFor 9 RX10 (fr0 + 7) (lo0 + 215)) (hr : x.2.2.2.2.2.2.2.2.1.sig.returnType = (Option.none : Option FieldType)) (hk : x.2.2.2.2.2.2.2.2.1.locks = false) (w : zV) (K45 : Nat → Int32 → Int32 → Int32 → Int32 → Int32 → Int32 → Int32 → Int32 → zV → Option zV) (hK45 : ∀ (x0 : Nat) (t0 : zty G x0 1 10) (x1 : Int32) (x2 : Int32) (x3 : Int32) (x4 : Int32) (x5 : Int32) (x6 : Int32) (x7 : Int32) (x8 : Int32) (v : zV), K45 x0 x1 x2 x3 x4 x5 x6 x7 x8 v = some w → zJ x G 9 (zQ x G none w 0 0) 0 0 45 [(0, zr G x0), (1, .int x1), (2, .int x2), (3, .int x3), (4, .int x4), (5, .int x5), (6, .int x6), (7, .int x7), (8, .int x8)] [] v) : ∀ (x0 : Nat) (t0 : zty G x0 1 10) (x1 : Int32) (x2 : Int32) (x3 : Int32) (x4 : Int32) (x5 : Int32) (x6 : Int32) (x7 : Int32) (x8 : Int32) (v : zV), fX10_hopesFor_80 RC K45 x0 x1 x2 x3 x4 x5 x6 x7 x8 v = some w → zJ x G 9 (zQ x G none w 0 0) 0 0 80 [(0, zr G x0), (1, .int x1), (2, .int x2), (3, .int x3), (4, .int x4), (5, .int x5), (6, .int x6), (7, .int x7), (8, .int x8)] [] v := by
  intro x0 t0 x1 x2 x3 x4 x5 x6 x7 x8 v h
  unfold fX10_hopesFor_80 at h
  refine z_aload_n F dX10_hopesFor_80 rfl 0 rfl ?_
  refine zg_10_51 F t0 wF_X10_109 dX10_hopesFor_81 ?_
  refine z_iload F dX10_hopesFor_84 4 rfl ?_
  obtain ⟨hi86, h⟩ := zix_ex h
  refine z_aald3 F (zt_f tc_10_51 t0) dX10_hopesFor_86 hi86 ?_
  refine z_aload_n F dX10_hopesFor_87 rfl 0 rfl ?_
  refine zg_10_51 F t0 wF_X10_109 dX10_hopesFor_88 ?_
  refine z_iload F dX10_hopesFor_91 4 rfl ?_
  refine z_iconst (y := (1 : Int32)) F dX10_hopesFor_93 rfl ?_
  refine z_iadd F dX10_hopesFor_94 ?_
  obtain ⟨hi95, h⟩ := zix_ex h
  refine z_aald3 F (zt_f tc_10_51 t0) dX10_hopesFor_95 hi95 ?_
  obtain ⟨v_1, hq96, h⟩ := zbindv_ex h
  refine z_callSv F [zr G (zrf (zrf x0 51) (x4).toNatClampNeg), zr G (zrf (zrf x0 51) (x4 + (1 : Int32)).toNatClampNeg)] [] (kX10_copies x.2.1 G (zrf (zrf x0 51) (x4).toNatClampNeg) (zt_a tcA_3 (zt_f tc_10_51 t0) (zin_lt hi86)) (zrf (zrf x0 51) (x4 + (1 : Int32)).toNatClampNeg) (zt_a tcA_3 (zt_f tc_10_51 t0) (zin_lt hi95)) v v_1 hq96) mI_X10_copies wM_X10_237 ms_X10_copies dX10_hopesFor_96 rfl ⟨by omega, by omega⟩ rfl (Nat.le_of_ble_eq_true rfl) ⟨Nat.zero_le _, Nat.zero_le _⟩ ?_
  refine z_aload_n F dX10_hopesFor_99 rfl 0 rfl ?_
  refine zg_10_43 F t0 wF_X10_100 dX10_hopesFor_100 ?_
  refine z_iconst (y := (0 : Int32)) F dX10_hopesFor_103 rfl ?_
  obtain ⟨hi104, h⟩ := zix_ex h
  refine z_aald3 F (zt_f tc_10_43 t0) dX10_hopesFor_104 hi104 ?_
  refine z_iconst (y := (0 : Int32)) F dX10_hopesFor_105 rfl ?_
  refine z_aload_n F dX10_hopesFor_106 rfl 0 rfl ?_
  refine zg_10_51 F t0 wF_X10_109 dX10_hopesFor_107 ?_
  refine z_iload F dX10_hopesFor_110 4 rfl ?_
  obtain ⟨hi112, h⟩ := zix_ex h
  refine z_aald3 F (zt_f tc_10_51 t0) dX10_hopesFor_112 hi112 ?_
  refine z_bipush (y := (99 : Int32)) F dX10_hopesFor_113 rfl ?_
  obtain ⟨hi115, h⟩ := zix_ex h
  refine z_iald F (zt_a tcA_3 (zt_f tc_10_51 t0) (zin_lt hi112)) dX10_hopesFor_115 hi115 ?_
  obtain ⟨hi116, h⟩ := zix_ex h
  refine z_iast F (zt_a tcA_3 (zt_f tc_10_43 t0) (zin_lt hi104)) dX10_hopesFor_116 hi116 ?_
  obtain ⟨v_2, ev_2, h⟩ := zlet_ex h
  refine z_heap ev_2 ?_
  refine z_aload_n F dX10_hopesFor_117 rfl 0 rfl ?_
  refine zg_10_43 F t0 wF_X10_100 dX10_hopesFor_118 ?_
  refine z_iconst (y := (0 : Int32)) F dX10_hopesFor_121 rfl ?_
  obtain ⟨hi122, h⟩ := zix_ex h
  refine z_aald3 F (zt_f tc_10_43 t0) dX10_hopesFor_122 hi122 ?_
  refine z_iconst (y := (1 : Int32)) F dX10_hopesFor_123 rfl ?_
  refine z_iload F dX10_hopesFor_124 8 rfl ?_
  obtain ⟨hi126, h⟩ := zix_ex h
  refine z_iast F (zt_a tcA_3 (zt_f tc_10_43 t0) (zin_lt hi122)) dX10_hopesFor_126 hi126 ?_
  obtain ⟨v_3, ev_3, h⟩ := zlet_ex h
  refine z_heap ev_3 ?_
  refine z_aload_n F dX10_hopesFor_127 rfl 0 rfl ?_
  refine zg_10_43 F t0 wF_X10_100 dX10_hopesFor_128 ?_
  refine z_iconst (y := (0 : Int32)) F dX10_hopesFor_131 rfl ?_
  obtain ⟨hi132, h⟩ := zix_ex h
  refine z_aald3 F (zt_f tc_10_43 t0) dX10_hopesFor_132 hi132 ?_
  refine z_iconst (y := (2 : Int32)) F dX10_hopesFor_133 rfl ?_
  refine z_iload_n F dX10_hopesFor_134 rfl 3 rfl ?_
  obtain ⟨hi135, h⟩ := zix_ex h
  refine z_iast F (zt_a tcA_3 (zt_f tc_10_43 t0) (zin_lt hi132)) dX10_hopesFor_135 hi135 ?_
  obtain ⟨v_4, ev_4, h⟩ := zlet_ex h
  refine z_heap ev_4 ?_
  refine z_aload_n F dX10_hopesFor_136 rfl 0 rfl ?_
  refine z_iconst (y := (1 : Int32)) F dX10_hopesFor_137 rfl ?_
  refine zp_10_44 F t0 wF_X10_310 dX10_hopesFor_138 ?_
  obtain ⟨v_5, ev_5, h⟩ := zlet_ex h
  refine z_heap ev_5 ?_
  refine z_aload_n F dX10_hopesFor_141 rfl 0 rfl ?_
  refine z_aload_n F dX10_hopesFor_142 rfl 0 rfl ?_
  refine zg_10_51 F t0 wF_X10_109 dX10_hopesFor_143 ?_
  refine z_iload F dX10_hopesFor_146 4 rfl ?_
  refine z_iconst (y := (1 : Int32)) F dX10_hopesFor_148 rfl ?_
  refine z_iadd F dX10_hopesFor_149 ?_
  obtain ⟨hi150, h⟩ := zix_ex h
  refine z_aald3 F (zt_f tc_10_51 t0) dX10_hopesFor_150 hi150 ?_
  obtain ⟨v_6, hq151, h⟩ := zbindv_ex h
  refine z_callVv F [zr G (zrf (zrf x0 51) (x4 + (1 : Int32)).toNatClampNeg)] [] (kX10_goes x.2.1 G x0 t0 (zrf (zrf x0 51) (x4 + (1 : Int32)).toNatClampNeg) (zt_a tcA_3 (zt_f tc_10_51 t0) (zin_lt hi150)) v_5 v_6 hq151) mI_X10_goes (c := 10) rfl t0 wM_X10_359 mi_X10_goes sl_X10_goes dX10_hopesFor_151 rfl ⟨by omega, by omega⟩ rfl (Nat.le_of_ble_eq_true rfl) ⟨Nat.zero_le _, Nat.zero_le _⟩ ?_
  refine z_aload_n F dX10_hopesFor_154 rfl 0 rfl ?_
  refine z_iconst (y := (0 : Int32)) F dX10_hopesFor_155 rfl ?_
  refine zp_10_44 F t0 wF_X10_310 dX10_hopesFor_156 ?_
  obtain ⟨v_7, ev_7, h⟩ := zlet_ex h
  refine z_heap ev_7 ?_
  refine z_aload_n F dX10_hopesFor_159 rfl 0 rfl ?_
  refine z_iload_n F dX10_hopesFor_160 rfl 1 rfl ?_
  refine z_iload_n F dX10_hopesFor_161 rfl 2 rfl ?_
  refine z_iload_n F dX10_hopesFor_162 rfl 3 rfl ?_
  refine z_iload F dX10_hopesFor_163 4 rfl ?_
  refine z_iconst (y := (1 : Int32)) F dX10_hopesFor_165 rfl ?_
  refine z_iadd F dX10_hopesFor_166 ?_
  refine z_iload F dX10_hopesFor_167 5 rfl ?_
  refine z_iload F dX10_hopesFor_169 8 rfl ?_
  refine z_iconst (y := (-1 : Int32)) F dX10_hopesFor_171 rfl ?_
  refine z_icmp_ne F 179 dX10_hopesFor_172 rfl (fun hc => ?_) (fun hc => ?_)
  · replace h := zif_f hc h
    refine z_iconst (y := (1 : Int32)) F dX10_hopesFor_179 rfl ?_
    refine z_ls [(0, zr G x0), (1, .int x1), (2, .int x2), (3, .int x3), (4, .int x4), (5, .int x5), (6, .int x6), (7, .int x7), (8, .int x8)] [0, 1, 2, 3, 4, 5, 6, 7, 8] rfl ?_
    exact jX10_hopesFor_180 x G fr0 lo0 RC hRC F hr hk w K45 hK45 x0 t0 x1 x2 x3 x4 x5 x6 x7 x8 x0 t0 x1 x2 x3 (x4 + (1 : Int32)) x5 (1 : Int32) v_7 h
  · replace h := zif_t hc h
    refine z_iconst (y := (0 : Int32)) F dX10_hopesFor_175 rfl ?_
    refine z_goto F 180 dX10_hopesFor_176 rfl ?_
    refine z_ls [(0, zr G x0), (1, .int x1), (2, .int x2), (3, .int x3), (4, .int x4), (5, .int x5), (6, .int x6), (7, .int x7), (8, .int x8)] [0, 1, 2, 3, 4, 5, 6, 7, 8] rfl ?_
    exact jX10_hopesFor_180 x G fr0 lo0 RC hRC F hr hk w K45 hK45 x0 t0 x1 x2 x3 x4 x5 x6 x7 x8 x0 t0 x1 x2 x3 (x4 + (1 : Int32)) x5 (0 : Int32) v_7 h

def fX10_hopesFor_45 (RC : Nat → Int32 → Int32 → Int32 → Int32 → Int32 → Int32 → Int32 → zV → Option zV)  : Nat → Nat → Int32 → Int32 → Int32 → Int32 → Int32 → Int32 → Int32 → Int32 → zV → Option zV
  | 0 => fun _ _ _ _ _ _ _ _ _ _ => none
  | n + 1 => fun x0 x1 x2 x3 x4 x5 x6 x7 x8 v =>
    zix (1 : Int32) (zlen (zrf x0 12)) <|
    if (v (zrf x0 12) ((1 : Int32)).toNatClampNeg) ≤ x8 then
      some v
    else
      if x8 = (-1 : Int32) then
        fX10_hopesFor_80 RC (fX10_hopesFor_45 RC n) x0 x1 x2 x3 x4 x5 x6 x7 x8 v
      else
        zix x4 (zlen (zrf x0 51)) <|
        zix ((0 : Int32) + x8) (zlen (zrf (zrf x0 51) (x4).toNatClampNeg)) <|
        if (v (zrf (zrf x0 51) (x4).toNatClampNeg) ((0 : Int32) + x8).toNatClampNeg) = (0 : Int32) then
          fX10_hopesFor_80 RC (fX10_hopesFor_45 RC n) x0 x1 x2 x3 x4 x5 x6 x7 x8 v
        else
          (fX10_hopesFor_45 RC n) x0 x1 x2 x3 x4 x5 x6 x7 (x8 + (1 : Int32)) v
set_option maxRecDepth 4000 in
theorem jX10_hopesFor_45 (x : zCx) (G : zG) (fr0 lo0 : Nat) (RC : Nat → Int32 → Int32 → Int32 → Int32 → Int32 → Int32 → Int32 → zV → Option zV) (hRC : ∀ (l : Launch) (x0 : Nat) (t0 : zty G x0 1 10) (x1 : Int32) (x2 : Int32) (x3 : Int32) (x4 : Int32) (x5 : Int32) (x6 : Int32) (x7 : Int32) (v : zV) (w : zV), RC x0 x1 x2 x3 x4 x5 x6 x7 v = some w → zMet l yX10_hopesFor cX10_hopesFor 9 (Option.none : Option FieldType) fr0 lo0 0 0 [zr G x0, .int x1, .int x2, .int x3, .int x4, .int x5, .int x6, .int x7] G v none w) (F : zF x G cX10_hopesFor 9 RX10 (fr0 + 7) (lo0 + 215)) (hr : x.2.2.2.2.2.2.2.2.1.sig.returnType = (Option.none : Option FieldType)) (hk : x.2.2.2.2.2.2.2.2.1.locks = false) (w : zV)  : ∀ (n : Nat) (x0 : Nat) (t0 : zty G x0 1 10) (x1 : Int32) (x2 : Int32) (x3 : Int32) (x4 : Int32) (x5 : Int32) (x6 : Int32) (x7 : Int32) (x8 : Int32) (v : zV), fX10_hopesFor_45 RC n x0 x1 x2 x3 x4 x5 x6 x7 x8 v = some w → zJ x G 9 (zQ x G none w 0 0) 0 0 45 [(0, zr G x0), (1, .int x1), (2, .int x2), (3, .int x3), (4, .int x4), (5, .int x5), (6, .int x6), (7, .int x7), (8, .int x8)] [] v := by
  intro n
  induction n with
  | zero => intro x0 t0 x1 x2 x3 x4 x5 x6 x7 x8 v h; exact absurd h (by intro q; cases q)
  | succ n ih =>
    intro x0 t0 x1 x2 x3 x4 x5 x6 x7 x8 v h
    rw [fX10_hopesFor_45] at h
    dsimp only at h
    refine z_iload F dX10_hopesFor_45 8 rfl ?_
    refine z_aload_n F dX10_hopesFor_47 rfl 0 rfl ?_
    refine zg_10_12 F t0 wF_X10_23 dX10_hopesFor_48 ?_
    refine z_iconst (y := (1 : Int32)) F dX10_hopesFor_51 rfl ?_
    obtain ⟨hi52, h⟩ := zix_ex h
    refine z_iald F (zt_f tc_10_12 t0) dX10_hopesFor_52 hi52 ?_
    refine z_icmp_ge F 218 dX10_hopesFor_53 rfl (fun hc => ?_) (fun hc => ?_)
    · replace h := zif_t hc h
      cases h
      exact z_retv F hr hk dX10_hopesFor_218
    · replace h := zif_f hc h
      refine z_iload F dX10_hopesFor_56 8 rfl ?_
      refine z_iconst (y := (-1 : Int32)) F dX10_hopesFor_58 rfl ?_
      refine z_icmp_eq F 80 dX10_hopesFor_59 rfl (fun hc => ?_) (fun hc => ?_)
      · replace h := zif_t hc h
        refine z_ls [(0, zr G x0), (1, .int x1), (2, .int x2), (3, .int x3), (4, .int x4), (5, .int x5), (6, .int x6), (7, .int x7), (8, .int x8)] [0, 1, 2, 3, 4, 5, 6, 7, 8] rfl ?_
        exact jX10_hopesFor_80 x G fr0 lo0 RC hRC F hr hk w (fX10_hopesFor_45 RC n) ih x0 t0 x1 x2 x3 x4 x5 x6 x7 x8 v h
      · replace h := zif_f hc h
        refine z_aload_n F dX10_hopesFor_62 rfl 0 rfl ?_
        refine zg_10_51 F t0 wF_X10_109 dX10_hopesFor_63 ?_
        refine z_iload F dX10_hopesFor_66 4 rfl ?_
        obtain ⟨hi68, h⟩ := zix_ex h
        refine z_aald3 F (zt_f tc_10_51 t0) dX10_hopesFor_68 hi68 ?_
        refine z_iconst (y := (0 : Int32)) F dX10_hopesFor_69 rfl ?_
        refine z_iload F dX10_hopesFor_70 8 rfl ?_
        refine z_iadd F dX10_hopesFor_72 ?_
        obtain ⟨hi73, h⟩ := zix_ex h
        refine z_iald F (zt_a tcA_3 (zt_f tc_10_51 t0) (zin_lt hi68)) dX10_hopesFor_73 hi73 ?_
        refine z_if_eq F 80 dX10_hopesFor_74 rfl (fun hc => ?_) (fun hc => ?_)
        · replace h := zif_t hc h
          refine z_ls [(0, zr G x0), (1, .int x1), (2, .int x2), (3, .int x3), (4, .int x4), (5, .int x5), (6, .int x6), (7, .int x7), (8, .int x8)] [0, 1, 2, 3, 4, 5, 6, 7, 8] rfl ?_
          exact jX10_hopesFor_80 x G fr0 lo0 RC hRC F hr hk w (fX10_hopesFor_45 RC n) ih x0 t0 x1 x2 x3 x4 x5 x6 x7 x8 v h
        · replace h := zif_f hc h
          refine z_goto F 212 dX10_hopesFor_77 rfl ?_
          refine z_iinc F [(8, .int (x8 + (1 : Int32))), (0, zr G x0), (1, .int x1), (2, .int x2), (3, .int x3), (4, .int x4), (5, .int x5), (6, .int x6), (7, .int x7)] dX10_hopesFor_212 8 rfl rfl (Nat.le_of_ble_eq_true rfl) rfl ?_
          refine z_goto F 45 dX10_hopesFor_215 rfl ?_
          refine z_ls [(0, zr G x0), (1, .int x1), (2, .int x2), (3, .int x3), (4, .int x4), (5, .int x5), (6, .int x6), (7, .int x7), (8, .int (x8 + (1 : Int32)))] [1, 2, 3, 4, 5, 6, 7, 8, 0] rfl ?_
          exact ih x0 t0 x1 x2 x3 x4 x5 x6 x7 (x8 + (1 : Int32)) v h

def fX10_hopesFor (RC : Nat → Int32 → Int32 → Int32 → Int32 → Int32 → Int32 → Int32 → zV → Option zV) (x0 : Nat) (x1 : Int32) (x2 : Int32) (x3 : Int32) (x4 : Int32) (x5 : Int32) (x6 : Int32) (x7 : Int32) (v : zV) : Option zV :=
  if x4 = x2 then
    if x7 = (0 : Int32) then
      some v
    else
      if (v x0 52) = (-1 : Int32) then
        zlet (zup v x0 52 x5) fun v_1 =>
        zlet (zup v_1 x0 53 x6) fun v_2 =>
        some v_2
      else
        if x5 < (v x0 52) then
          zlet (zup v x0 52 x5) fun v_3 =>
          zlet (zup v_3 x0 53 x6) fun v_4 =>
          some v_4
        else
          some v
  else
    fX10_hopesFor_45 RC  zFU x0 x1 x2 x3 x4 x5 x6 x7 (-1 : Int32) v
set_option maxRecDepth 4000 in
theorem kX10_hopesFor (l : Launch) (G : zG) (fr0 lo0 : Nat) (RC : Nat → Int32 → Int32 → Int32 → Int32 → Int32 → Int32 → Int32 → zV → Option zV) (hRC : ∀ (l : Launch) (x0 : Nat) (t0 : zty G x0 1 10) (x1 : Int32) (x2 : Int32) (x3 : Int32) (x4 : Int32) (x5 : Int32) (x6 : Int32) (x7 : Int32) (v : zV) (w : zV), RC x0 x1 x2 x3 x4 x5 x6 x7 v = some w → zMet l yX10_hopesFor cX10_hopesFor 9 (Option.none : Option FieldType) fr0 lo0 0 0 [zr G x0, .int x1, .int x2, .int x3, .int x4, .int x5, .int x6, .int x7] G v none w) (x0 : Nat) (t0 : zty G x0 1 10) (x1 : Int32) (x2 : Int32) (x3 : Int32) (x4 : Int32) (x5 : Int32) (x6 : Int32) (x7 : Int32) (v : zV) (w : zV) (h : fX10_hopesFor RC x0 x1 x2 x3 x4 x5 x6 x7 v = some w) : zMet l yX10_hopesFor cX10_hopesFor 9 (Option.none : Option FieldType) (fr0 + 7) (lo0 + 215) 0 0 [zr G x0, .int x1, .int x2, .int x3, .int x4, .int x5, .int x6, .int x7] G v none w := by
  refine zM_of (own := RX10) (by decide) rfl (Nat.le_of_ble_eq_true rfl) (fun x hl F hr hk hcs => ?_)
  subst hl
  refine z_ls [(0, zr G x0), (1, .int x1), (2, .int x2), (3, .int x3), (4, .int x4), (5, .int x5), (6, .int x6), (7, .int x7)] [0, 1, 2, 3, 4, 5, 6, 7] rfl ?_
  unfold fX10_hopesFor at h
  refine z_iload F dX10_hopesFor_0 4 rfl ?_
  refine z_iload_n F dX10_hopesFor_2 rfl 2 rfl ?_
  refine z_icmp_ne F 42 dX10_hopesFor_3 rfl (fun hc => ?_) (fun hc => ?_)
  · replace h := zif_f hc h
    refine z_iconst (y := (-1 : Int32)) F dX10_hopesFor_42 rfl ?_
    refine z_istore (n := 0) F [(8, .int (-1 : Int32)), (0, zr G x0), (1, .int x1), (2, .int x2), (3, .int x3), (4, .int x4), (5, .int x5), (6, .int x6), (7, .int x7)] dX10_hopesFor_43 (Nat.le_of_ble_eq_true rfl) rfl ?_
    refine z_ls [(0, zr G x0), (1, .int x1), (2, .int x2), (3, .int x3), (4, .int x4), (5, .int x5), (6, .int x6), (7, .int x7), (8, .int (-1 : Int32))] [1, 2, 3, 4, 5, 6, 7, 8, 0] rfl ?_
    exact jX10_hopesFor_45 x G fr0 lo0 RC hRC F hr hk w   zFU x0 t0 x1 x2 x3 x4 x5 x6 x7 (-1 : Int32) v h
  · replace h := zif_t hc h
    refine z_iload F dX10_hopesFor_6 7 rfl ?_
    refine z_if_eq F 28 dX10_hopesFor_8 rfl (fun hc => ?_) (fun hc => ?_)
    · replace h := zif_t hc h
      cases h
      exact z_retv F hr hk dX10_hopesFor_28
    · replace h := zif_f hc h
      refine z_aload_n F dX10_hopesFor_11 rfl 0 rfl ?_
      refine zg_10_52 F t0 wF_X10_365 dX10_hopesFor_12 ?_
      refine z_iconst (y := (-1 : Int32)) F dX10_hopesFor_15 rfl ?_
      refine z_icmp_eq F 29 dX10_hopesFor_16 rfl (fun hc => ?_) (fun hc => ?_)
      · replace h := zif_t hc h
        refine z_aload_n F dX10_hopesFor_29 rfl 0 rfl ?_
        refine z_iload F dX10_hopesFor_30 5 rfl ?_
        refine zp_10_52 F t0 wF_X10_365 dX10_hopesFor_32 ?_
        obtain ⟨v_1, ev_1, h⟩ := zlet_ex h
        refine z_heap ev_1 ?_
        refine z_aload_n F dX10_hopesFor_35 rfl 0 rfl ?_
        refine z_iload F dX10_hopesFor_36 6 rfl ?_
        refine zp_10_53 F t0 wF_X10_368 dX10_hopesFor_38 ?_
        obtain ⟨v_2, ev_2, h⟩ := zlet_ex h
        refine z_heap ev_2 ?_
        cases h
        exact z_retv F hr hk dX10_hopesFor_41
      · replace h := zif_f hc h
        refine z_iload F dX10_hopesFor_19 5 rfl ?_
        refine z_aload_n F dX10_hopesFor_21 rfl 0 rfl ?_
        refine zg_10_52 F t0 wF_X10_365 dX10_hopesFor_22 ?_
        refine z_icmp_lt F 29 dX10_hopesFor_25 rfl (fun hc => ?_) (fun hc => ?_)
        · replace h := zif_t hc h
          refine z_aload_n F dX10_hopesFor_29 rfl 0 rfl ?_
          refine z_iload F dX10_hopesFor_30 5 rfl ?_
          refine zp_10_52 F t0 wF_X10_365 dX10_hopesFor_32 ?_
          obtain ⟨v_3, ev_3, h⟩ := zlet_ex h
          refine z_heap ev_3 ?_
          refine z_aload_n F dX10_hopesFor_35 rfl 0 rfl ?_
          refine z_iload F dX10_hopesFor_36 6 rfl ?_
          refine zp_10_53 F t0 wF_X10_368 dX10_hopesFor_38 ?_
          obtain ⟨v_4, ev_4, h⟩ := zlet_ex h
          refine z_heap ev_4 ?_
          cases h
          exact z_retv F hr hk dX10_hopesFor_41
        · replace h := zif_f hc h
          cases h
          exact z_retv F hr hk dX10_hopesFor_28

def fX10_hopesForD : Nat → Nat → Int32 → Int32 → Int32 → Int32 → Int32 → Int32 → Int32 → zV → Option zV
  | 0 => fun _ _ _ _ _ _ _ _ _ => none
  | d + 1 => fX10_hopesFor (fX10_hopesForD d)
theorem kX10_hopesForD_all (d : Nat) : ∀ (l : Launch) (G : zG) (x0 : Nat) (t0 : zty G x0 1 10) (x1 : Int32) (x2 : Int32) (x3 : Int32) (x4 : Int32) (x5 : Int32) (x6 : Int32) (x7 : Int32) (v : zV) (w : zV), fX10_hopesForD d x0 x1 x2 x3 x4 x5 x6 x7 v = some w → zMet l yX10_hopesFor cX10_hopesFor 9 (Option.none : Option FieldType) (d * 7 + 1) (d * 215 + 1) 0 0 [zr G x0, .int x1, .int x2, .int x3, .int x4, .int x5, .int x6, .int x7] G v none w := by
  induction d with
  | zero => intro l G x0 t0 x1 x2 x3 x4 x5 x6 x7 v w h; exact absurd h (by intro q; cases q)
  | succ d ih =>
    intro l G x0 t0 x1 x2 x3 x4 x5 x6 x7 v w h
    have e1 : (d + 1) * 7 + 1 = d * 7 + 1 + 7 := by omega
    have e2 : (d + 1) * 215 + 1 = d * 215 + 1 + 215 := by omega
    rw [e1, e2]
    exact kX10_hopesFor l G _ _ (fX10_hopesForD d) (fun l => ih l G) x0 t0 x1 x2 x3 x4 x5 x6 x7 v w h
theorem kX10_hopesForD (l : Launch) (G : zG) (d : Nat) (x0 : Nat) (t0 : zty G x0 1 10) (x1 : Int32) (x2 : Int32) (x3 : Int32) (x4 : Int32) (x5 : Int32) (x6 : Int32) (x7 : Int32) (v : zV) (w : zV) (h : fX10_hopesForD d x0 x1 x2 x3 x4 x5 x6 x7 v = some w) : zMet l yX10_hopesFor cX10_hopesFor 9 (Option.none : Option FieldType) (d * 7 + 1) (d * 215 + 1) 0 0 [zr G x0, .int x1, .int x2, .int x3, .int x4, .int x5, .int x6, .int x7] G v none w := kX10_hopesForD_all d l G x0 t0 x1 x2 x3 x4 x5 x6 x7 v w h

theorem dX10_praises_0 : decode cX10_praises 0 = .ok (.aload_n 0, 1) := by decide +kernel
theorem dX10_praises_1 : decode cX10_praises 1 = .ok (.iconst 0, 1) := by decide +kernel
theorem dX10_praises_2 : decode cX10_praises 2 = .ok (.putfield 134, 3) := by decide +kernel
theorem dX10_praises_5 : decode cX10_praises 5 = .ok (.aload_n 0, 1) := by decide +kernel
theorem dX10_praises_6 : decode cX10_praises 6 = .ok (.aload_n 0, 1) := by decide +kernel
theorem dX10_praises_7 : decode cX10_praises 7 = .ok (.iload_n 1, 1) := by decide +kernel
theorem dX10_praises_8 : decode cX10_praises 8 = .ok (.invokevirtual 298, 3) := by decide +kernel
theorem dX10_praises_11 : decode cX10_praises 11 = .ok (.ifCond .ne 7, 3) := by decide +kernel
theorem dX10_praises_14 : decode cX10_praises 14 = .ok (.iconst 1, 1) := by decide +kernel
theorem dX10_praises_15 : decode cX10_praises 15 = .ok (.goto 4, 3) := by decide +kernel
theorem dX10_praises_18 : decode cX10_praises 18 = .ok (.iconst 0, 1) := by decide +kernel
theorem dX10_praises_19 : decode cX10_praises 19 = .ok (.iconst 1, 1) := by decide +kernel
theorem dX10_praises_20 : decode cX10_praises 20 = .ok (.iconst 0, 1) := by decide +kernel
theorem dX10_praises_21 : decode cX10_praises 21 = .ok (.invokevirtual 220, 3) := by decide +kernel
theorem dX10_praises_24 : decode cX10_praises 24 = .ok (.ifCond .ne 46, 3) := by decide +kernel
theorem dX10_praises_27 : decode cX10_praises 27 = .ok (.aload_n 0, 1) := by decide +kernel
theorem dX10_praises_28 : decode cX10_praises 28 = .ok (.iload_n 2, 1) := by decide +kernel
theorem dX10_praises_29 : decode cX10_praises 29 = .ok (.iconst 1, 1) := by decide +kernel
theorem dX10_praises_30 : decode cX10_praises 30 = .ok (.iconst 3, 1) := by decide +kernel
theorem dX10_praises_31 : decode cX10_praises 31 = .ok (.invokestatic 168, 3) := by decide +kernel
theorem dX10_praises_34 : decode cX10_praises 34 = .ok (.ifCond .eq 23, 3) := by decide +kernel
theorem dX10_praises_37 : decode cX10_praises 37 = .ok (.iload_n 3, 1) := by decide +kernel
theorem dX10_praises_38 : decode cX10_praises 38 = .ok (.iconst 1, 1) := by decide +kernel
theorem dX10_praises_39 : decode cX10_praises 39 = .ok (.bipush 99, 2) := by decide +kernel
theorem dX10_praises_41 : decode cX10_praises 41 = .ok (.invokestatic 168, 3) := by decide +kernel
theorem dX10_praises_44 : decode cX10_praises 44 = .ok (.ifCond .eq 13, 3) := by decide +kernel
theorem dX10_praises_47 : decode cX10_praises 47 = .ok (.iload 4, 2) := by decide +kernel
theorem dX10_praises_49 : decode cX10_praises 49 = .ok (.iconst 0, 1) := by decide +kernel
theorem dX10_praises_50 : decode cX10_praises 50 = .ok (.iconst 1, 1) := by decide +kernel
theorem dX10_praises_51 : decode cX10_praises 51 = .ok (.invokestatic 168, 3) := by decide +kernel
theorem dX10_praises_54 : decode cX10_praises 54 = .ok (.ifCond .ne 7, 3) := by decide +kernel
theorem dX10_praises_57 : decode cX10_praises 57 = .ok (.iconst 1, 1) := by decide +kernel
theorem dX10_praises_58 : decode cX10_praises 58 = .ok (.goto 4, 3) := by decide +kernel
theorem dX10_praises_61 : decode cX10_praises 61 = .ok (.iconst 0, 1) := by decide +kernel
theorem dX10_praises_62 : decode cX10_praises 62 = .ok (.iconst 2, 1) := by decide +kernel
theorem dX10_praises_63 : decode cX10_praises 63 = .ok (.iconst 1, 1) := by decide +kernel
theorem dX10_praises_64 : decode cX10_praises 64 = .ok (.invokevirtual 220, 3) := by decide +kernel
theorem dX10_praises_67 : decode cX10_praises 67 = .ok (.ifCond .eq 5, 3) := by decide +kernel
theorem dX10_praises_70 : decode cX10_praises 70 = .ok (.iconst 0, 1) := by decide +kernel
theorem dX10_praises_71 : decode cX10_praises 71 = .ok (.ireturn, 1) := by decide +kernel
theorem dX10_praises_72 : decode cX10_praises 72 = .ok (.aload_n 0, 1) := by decide +kernel
theorem dX10_praises_73 : decode cX10_praises 73 = .ok (.getfield 85, 3) := by decide +kernel
theorem dX10_praises_76 : decode cX10_praises 76 = .ok (.aload_n 0, 1) := by decide +kernel
theorem dX10_praises_77 : decode cX10_praises 77 = .ok (.getfield 109, 3) := by decide +kernel
theorem dX10_praises_80 : decode cX10_praises 80 = .ok (.iconst 0, 1) := by decide +kernel
theorem dX10_praises_81 : decode cX10_praises 81 = .ok (.aaload, 1) := by decide +kernel
theorem dX10_praises_82 : decode cX10_praises 82 = .ok (.invokestatic 237, 3) := by decide +kernel
theorem dX10_praises_85 : decode cX10_praises 85 = .ok (.aload_n 0, 1) := by decide +kernel
theorem dX10_praises_86 : decode cX10_praises 86 = .ok (.iconst (-1), 1) := by decide +kernel
theorem dX10_praises_87 : decode cX10_praises 87 = .ok (.putfield 365, 3) := by decide +kernel
theorem dX10_praises_90 : decode cX10_praises 90 = .ok (.aload_n 0, 1) := by decide +kernel
theorem dX10_praises_91 : decode cX10_praises 91 = .ok (.iconst (-1), 1) := by decide +kernel
theorem dX10_praises_92 : decode cX10_praises 92 = .ok (.putfield 368, 3) := by decide +kernel
theorem dX10_praises_95 : decode cX10_praises 95 = .ok (.aload_n 0, 1) := by decide +kernel
theorem dX10_praises_96 : decode cX10_praises 96 = .ok (.iload_n 1, 1) := by decide +kernel
theorem dX10_praises_97 : decode cX10_praises 97 = .ok (.iload_n 2, 1) := by decide +kernel
theorem dX10_praises_98 : decode cX10_praises 98 = .ok (.iload_n 3, 1) := by decide +kernel
theorem dX10_praises_99 : decode cX10_praises 99 = .ok (.iconst 0, 1) := by decide +kernel
theorem dX10_praises_100 : decode cX10_praises 100 = .ok (.iconst 0, 1) := by decide +kernel
theorem dX10_praises_101 : decode cX10_praises 101 = .ok (.iconst 0, 1) := by decide +kernel
theorem dX10_praises_102 : decode cX10_praises 102 = .ok (.iconst 0, 1) := by decide +kernel
theorem dX10_praises_103 : decode cX10_praises 103 = .ok (.invokevirtual 371, 3) := by decide +kernel
theorem dX10_praises_106 : decode cX10_praises 106 = .ok (.iload 4, 2) := by decide +kernel
theorem dX10_praises_108 : decode cX10_praises 108 = .ok (.ifCond .ne 10, 3) := by decide +kernel
theorem dX10_praises_111 : decode cX10_praises 111 = .ok (.aload_n 0, 1) := by decide +kernel
theorem dX10_praises_112 : decode cX10_praises 112 = .ok (.getfield 365, 3) := by decide +kernel
theorem dX10_praises_115 : decode cX10_praises 115 = .ok (.goto 7, 3) := by decide +kernel
theorem dX10_praises_118 : decode cX10_praises 118 = .ok (.aload_n 0, 1) := by decide +kernel
theorem dX10_praises_119 : decode cX10_praises 119 = .ok (.getfield 368, 3) := by decide +kernel
theorem dX10_praises_122 : decode cX10_praises 122 = .ok (.ireturn, 1) := by decide +kernel
def fX10_praises_62  (x0 : Nat) (x1 : Int32) (x2 : Int32) (x3 : Int32) (x4 : Int32) (s0 : Nat) (s1 : Int32) (v : zV) : Option (Int32 × zV) :=
  zbind (fX10_bad s0 s1 (2 : Int32) (1 : Int32) v) fun r_2 v_1 =>
  if r_2 = (0 : Int32) then
    zix (0 : Int32) (zlen (zrf x0 51)) <|
    zbindv (fX10_copies (zrf x0 35) (zrf (zrf x0 51) ((0 : Int32)).toNatClampNeg) v_1) fun v_3 =>
    zlet (zup v_3 x0 52 (-1 : Int32)) fun v_4 =>
    zlet (zup v_4 x0 53 (-1 : Int32)) fun v_5 =>
    zbindv (fX10_hopesForD 20 x0 x1 x2 x3 (0 : Int32) (0 : Int32) (0 : Int32) (0 : Int32) v_5) fun v_6 =>
    if x4 = (0 : Int32) then
      some (v_6 x0 52, v_6)
    else
      some (v_6 x0 53, v_6)
  else
    some ((0 : Int32), v_1)
set_option maxRecDepth 4000 in
theorem jX10_praises_62 (x : zCx) (G : zG) (F : zF x G cX10_praises 5 RX10 142 4329) (hr : x.2.2.2.2.2.2.2.2.1.sig.returnType = (Option.some FieldType.int)) (hk : x.2.2.2.2.2.2.2.2.1.locks = false) (r : Int32) (w : zV)  : ∀ (x0 : Nat) (t0 : zty G x0 1 10) (x1 : Int32) (x2 : Int32) (x3 : Int32) (x4 : Int32) (s0 : Nat) (ts0 : zty G s0 1 10) (s1 : Int32) (v : zV), fX10_praises_62 x0 x1 x2 x3 x4 s0 s1 v = some (r, w) → zJ x G 5 (zQ x G (some (.int r)) w 0 0) 0 0 62 [(0, zr G x0), (1, .int x1), (2, .int x2), (3, .int x3), (4, .int x4)] [.int s1, zr G s0] v := by
  intro x0 t0 x1 x2 x3 x4 s0 ts0 s1 v h
  unfold fX10_praises_62 at h
  refine z_iconst (y := (2 : Int32)) F dX10_praises_62 rfl ?_
  refine z_iconst (y := (1 : Int32)) F dX10_praises_63 rfl ?_
  obtain ⟨r_2, v_1, hq64, h⟩ := zbind_ex h
  refine z_callVi F [.int s1, .int (2 : Int32), .int (1 : Int32)] [] (kX10_bad x.2.1 G s0 ts0 s1 (2 : Int32) (1 : Int32) v r_2 v_1 hq64) mI_X10_bad (c := 10) rfl ts0 wM_X10_220 mi_X10_bad sl_X10_bad dX10_praises_64 rfl ⟨Nat.le_of_ble_eq_true rfl, Nat.le_of_ble_eq_true rfl⟩ rfl (Nat.le_of_ble_eq_true rfl) ⟨Nat.zero_le _, Nat.zero_le _⟩ ?_
  refine z_if_eq F 72 dX10_praises_67 rfl (fun hc => ?_) (fun hc => ?_)
  · replace h := zif_t hc h
    refine z_aload_n F dX10_praises_72 rfl 0 rfl ?_
    refine zg_10_35 F t0 wF_X10_85 dX10_praises_73 ?_
    refine z_aload_n F dX10_praises_76 rfl 0 rfl ?_
    refine zg_10_51 F t0 wF_X10_109 dX10_praises_77 ?_
    refine z_iconst (y := (0 : Int32)) F dX10_praises_80 rfl ?_
    obtain ⟨hi81, h⟩ := zix_ex h
    refine z_aald3 F (zt_f tc_10_51 t0) dX10_praises_81 hi81 ?_
    obtain ⟨v_3, hq82, h⟩ := zbindv_ex h
    refine z_callSv F [zr G (zrf x0 35), zr G (zrf (zrf x0 51) ((0 : Int32)).toNatClampNeg)] [] (kX10_copies x.2.1 G (zrf x0 35) (zt_f tc_10_35 t0) (zrf (zrf x0 51) ((0 : Int32)).toNatClampNeg) (zt_a tcA_3 (zt_f tc_10_51 t0) (zin_lt hi81)) v_1 v_3 hq82) mI_X10_copies wM_X10_237 ms_X10_copies dX10_praises_82 rfl ⟨Nat.le_of_ble_eq_true rfl, Nat.le_of_ble_eq_true rfl⟩ rfl (Nat.le_of_ble_eq_true rfl) ⟨Nat.zero_le _, Nat.zero_le _⟩ ?_
    refine z_aload_n F dX10_praises_85 rfl 0 rfl ?_
    refine z_iconst (y := (-1 : Int32)) F dX10_praises_86 rfl ?_
    refine zp_10_52 F t0 wF_X10_365 dX10_praises_87 ?_
    obtain ⟨v_4, ev_4, h⟩ := zlet_ex h
    refine z_heap ev_4 ?_
    refine z_aload_n F dX10_praises_90 rfl 0 rfl ?_
    refine z_iconst (y := (-1 : Int32)) F dX10_praises_91 rfl ?_
    refine zp_10_53 F t0 wF_X10_368 dX10_praises_92 ?_
    obtain ⟨v_5, ev_5, h⟩ := zlet_ex h
    refine z_heap ev_5 ?_
    refine z_aload_n F dX10_praises_95 rfl 0 rfl ?_
    refine z_iload_n F dX10_praises_96 rfl 1 rfl ?_
    refine z_iload_n F dX10_praises_97 rfl 2 rfl ?_
    refine z_iload_n F dX10_praises_98 rfl 3 rfl ?_
    refine z_iconst (y := (0 : Int32)) F dX10_praises_99 rfl ?_
    refine z_iconst (y := (0 : Int32)) F dX10_praises_100 rfl ?_
    refine z_iconst (y := (0 : Int32)) F dX10_praises_101 rfl ?_
    refine z_iconst (y := (0 : Int32)) F dX10_praises_102 rfl ?_
    obtain ⟨v_6, hq103, h⟩ := zbindv_ex h
    refine z_callVv F [.int x1, .int x2, .int x3, .int (0 : Int32), .int (0 : Int32), .int (0 : Int32), .int (0 : Int32)] [] (kX10_hopesForD x.2.1 G 20 x0 t0 x1 x2 x3 (0 : Int32) (0 : Int32) (0 : Int32) (0 : Int32) v_5 v_6 hq103) mI_X10_hopesFor (c := 10) rfl t0 wM_X10_371 mi_X10_hopesFor sl_X10_hopesFor dX10_praises_103 rfl ⟨Nat.le_of_ble_eq_true rfl, Nat.le_of_ble_eq_true rfl⟩ rfl (Nat.le_of_ble_eq_true rfl) ⟨Nat.zero_le _, Nat.zero_le _⟩ ?_
    refine z_iload F dX10_praises_106 4 rfl ?_
    refine z_if_ne F 118 dX10_praises_108 rfl (fun hc => ?_) (fun hc => ?_)
    · replace h := zif_f hc h
      refine z_aload_n F dX10_praises_118 rfl 0 rfl ?_
      refine zg_10_53 F t0 wF_X10_368 dX10_praises_119 ?_
      cases h
      exact z_reti F hr hk dX10_praises_122
    · replace h := zif_t hc h
      refine z_aload_n F dX10_praises_111 rfl 0 rfl ?_
      refine zg_10_52 F t0 wF_X10_365 dX10_praises_112 ?_
      refine z_goto F 122 dX10_praises_115 rfl ?_
      cases h
      exact z_reti F hr hk dX10_praises_122
  · replace h := zif_f hc h
    refine z_iconst (y := (0 : Int32)) F dX10_praises_70 rfl ?_
    cases h
    exact z_reti F hr hk dX10_praises_71

def fX10_praises_19  (x0 : Nat) (x1 : Int32) (x2 : Int32) (x3 : Int32) (x4 : Int32) (s0 : Nat) (s1 : Int32) (v : zV) : Option (Int32 × zV) :=
  zbind (fX10_bad s0 s1 (1 : Int32) (0 : Int32) v) fun r_2 v_1 =>
  if r_2 = (0 : Int32) then
    zbind (fX10_in x2 (1 : Int32) (3 : Int32) v_1) fun r_4 v_3 =>
    if r_4 = (0 : Int32) then
      fX10_praises_62  x0 x1 x2 x3 x4 x0 (1 : Int32) v_3
    else
      zbind (fX10_in x3 (1 : Int32) (99 : Int32) v_3) fun r_6 v_5 =>
      if r_6 = (0 : Int32) then
        fX10_praises_62  x0 x1 x2 x3 x4 x0 (1 : Int32) v_5
      else
        zbind (fX10_in x4 (0 : Int32) (1 : Int32) v_5) fun r_8 v_7 =>
        if r_8 = (0 : Int32) then
          fX10_praises_62  x0 x1 x2 x3 x4 x0 (1 : Int32) v_7
        else
          fX10_praises_62  x0 x1 x2 x3 x4 x0 (0 : Int32) v_7
  else
    some ((0 : Int32), v_1)
set_option maxRecDepth 4000 in
theorem jX10_praises_19 (x : zCx) (G : zG) (F : zF x G cX10_praises 5 RX10 142 4329) (hr : x.2.2.2.2.2.2.2.2.1.sig.returnType = (Option.some FieldType.int)) (hk : x.2.2.2.2.2.2.2.2.1.locks = false) (r : Int32) (w : zV)  : ∀ (x0 : Nat) (t0 : zty G x0 1 10) (x1 : Int32) (x2 : Int32) (x3 : Int32) (x4 : Int32) (s0 : Nat) (ts0 : zty G s0 1 10) (s1 : Int32) (v : zV), fX10_praises_19 x0 x1 x2 x3 x4 s0 s1 v = some (r, w) → zJ x G 5 (zQ x G (some (.int r)) w 0 0) 0 0 19 [(0, zr G x0), (1, .int x1), (2, .int x2), (3, .int x3), (4, .int x4)] [.int s1, zr G s0] v := by
  intro x0 t0 x1 x2 x3 x4 s0 ts0 s1 v h
  unfold fX10_praises_19 at h
  refine z_iconst (y := (1 : Int32)) F dX10_praises_19 rfl ?_
  refine z_iconst (y := (0 : Int32)) F dX10_praises_20 rfl ?_
  obtain ⟨r_2, v_1, hq21, h⟩ := zbind_ex h
  refine z_callVi F [.int s1, .int (1 : Int32), .int (0 : Int32)] [] (kX10_bad x.2.1 G s0 ts0 s1 (1 : Int32) (0 : Int32) v r_2 v_1 hq21) mI_X10_bad (c := 10) rfl ts0 wM_X10_220 mi_X10_bad sl_X10_bad dX10_praises_21 rfl ⟨Nat.le_of_ble_eq_true rfl, Nat.le_of_ble_eq_true rfl⟩ rfl (Nat.le_of_ble_eq_true rfl) ⟨Nat.zero_le _, Nat.zero_le _⟩ ?_
  refine z_if_ne F 70 dX10_praises_24 rfl (fun hc => ?_) (fun hc => ?_)
  · replace h := zif_f hc h
    refine z_iconst (y := (0 : Int32)) F dX10_praises_70 rfl ?_
    cases h
    exact z_reti F hr hk dX10_praises_71
  · replace h := zif_t hc h
    refine z_aload_n F dX10_praises_27 rfl 0 rfl ?_
    refine z_iload_n F dX10_praises_28 rfl 2 rfl ?_
    refine z_iconst (y := (1 : Int32)) F dX10_praises_29 rfl ?_
    refine z_iconst (y := (3 : Int32)) F dX10_praises_30 rfl ?_
    obtain ⟨r_4, v_3, hq31, h⟩ := zbind_ex h
    refine z_callSi F [.int x2, .int (1 : Int32), .int (3 : Int32)] [zr G x0] (kX10_in x.2.1 G x2 (1 : Int32) (3 : Int32) v_1 r_4 v_3 hq31) mI_X10_in wM_X10_168 ms_X10_in dX10_praises_31 rfl ⟨Nat.le_of_ble_eq_true rfl, Nat.le_of_ble_eq_true rfl⟩ rfl (Nat.le_of_ble_eq_true rfl) ⟨Nat.zero_le _, Nat.zero_le _⟩ ?_
    refine z_if_eq F 57 dX10_praises_34 rfl (fun hc => ?_) (fun hc => ?_)
    · replace h := zif_t hc h
      refine z_iconst (y := (1 : Int32)) F dX10_praises_57 rfl ?_
      refine z_goto F 62 dX10_praises_58 rfl ?_
      refine z_ls [(0, zr G x0), (1, .int x1), (2, .int x2), (3, .int x3), (4, .int x4)] [0, 1, 2, 3, 4] rfl ?_
      exact jX10_praises_62 x G F hr hk r w   x0 t0 x1 x2 x3 x4 x0 t0 (1 : Int32) v_3 h
    · replace h := zif_f hc h
      refine z_iload_n F dX10_praises_37 rfl 3 rfl ?_
      refine z_iconst (y := (1 : Int32)) F dX10_praises_38 rfl ?_
      refine z_bipush (y := (99 : Int32)) F dX10_praises_39 rfl ?_
      obtain ⟨r_6, v_5, hq41, h⟩ := zbind_ex h
      refine z_callSi F [.int x3, .int (1 : Int32), .int (99 : Int32)] [zr G x0] (kX10_in x.2.1 G x3 (1 : Int32) (99 : Int32) v_3 r_6 v_5 hq41) mI_X10_in wM_X10_168 ms_X10_in dX10_praises_41 rfl ⟨Nat.le_of_ble_eq_true rfl, Nat.le_of_ble_eq_true rfl⟩ rfl (Nat.le_of_ble_eq_true rfl) ⟨Nat.zero_le _, Nat.zero_le _⟩ ?_
      refine z_if_eq F 57 dX10_praises_44 rfl (fun hc => ?_) (fun hc => ?_)
      · replace h := zif_t hc h
        refine z_iconst (y := (1 : Int32)) F dX10_praises_57 rfl ?_
        refine z_goto F 62 dX10_praises_58 rfl ?_
        refine z_ls [(0, zr G x0), (1, .int x1), (2, .int x2), (3, .int x3), (4, .int x4)] [0, 1, 2, 3, 4] rfl ?_
        exact jX10_praises_62 x G F hr hk r w   x0 t0 x1 x2 x3 x4 x0 t0 (1 : Int32) v_5 h
      · replace h := zif_f hc h
        refine z_iload F dX10_praises_47 4 rfl ?_
        refine z_iconst (y := (0 : Int32)) F dX10_praises_49 rfl ?_
        refine z_iconst (y := (1 : Int32)) F dX10_praises_50 rfl ?_
        obtain ⟨r_8, v_7, hq51, h⟩ := zbind_ex h
        refine z_callSi F [.int x4, .int (0 : Int32), .int (1 : Int32)] [zr G x0] (kX10_in x.2.1 G x4 (0 : Int32) (1 : Int32) v_5 r_8 v_7 hq51) mI_X10_in wM_X10_168 ms_X10_in dX10_praises_51 rfl ⟨Nat.le_of_ble_eq_true rfl, Nat.le_of_ble_eq_true rfl⟩ rfl (Nat.le_of_ble_eq_true rfl) ⟨Nat.zero_le _, Nat.zero_le _⟩ ?_
        refine z_if_ne F 61 dX10_praises_54 rfl (fun hc => ?_) (fun hc => ?_)
        · replace h := zif_f hc h
          refine z_iconst (y := (0 : Int32)) F dX10_praises_61 rfl ?_
          refine z_ls [(0, zr G x0), (1, .int x1), (2, .int x2), (3, .int x3), (4, .int x4)] [0, 1, 2, 3, 4] rfl ?_
          exact jX10_praises_62 x G F hr hk r w   x0 t0 x1 x2 x3 x4 x0 t0 (0 : Int32) v_7 h
        · replace h := zif_t hc h
          refine z_iconst (y := (1 : Int32)) F dX10_praises_57 rfl ?_
          refine z_goto F 62 dX10_praises_58 rfl ?_
          refine z_ls [(0, zr G x0), (1, .int x1), (2, .int x2), (3, .int x3), (4, .int x4)] [0, 1, 2, 3, 4] rfl ?_
          exact jX10_praises_62 x G F hr hk r w   x0 t0 x1 x2 x3 x4 x0 t0 (1 : Int32) v_7 h

def fX10_praises (x0 : Nat) (x1 : Int32) (x2 : Int32) (x3 : Int32) (x4 : Int32) (v : zV) : Option (Int32 × zV) :=
  zlet (zup v x0 0 (0 : Int32)) fun v_1 =>
  zbind (fX10_isMan x0 x1 v_1) fun r_3 v_2 =>
  if r_3 = (0 : Int32) then
    fX10_praises_19  x0 x1 x2 x3 x4 x0 (1 : Int32) v_2
  else
    fX10_praises_19  x0 x1 x2 x3 x4 x0 (0 : Int32) v_2
set_option maxRecDepth 4000 in
theorem kX10_praises (l : Launch) (G : zG) (x0 : Nat) (t0 : zty G x0 1 10) (x1 : Int32) (x2 : Int32) (x3 : Int32) (x4 : Int32) (v : zV) (r : Int32) (w : zV) (h : fX10_praises x0 x1 x2 x3 x4 v = some (r, w)) : zMet l yX10_praises cX10_praises 5 (Option.some FieldType.int) 142 4329 0 0 [zr G x0, .int x1, .int x2, .int x3, .int x4] G v (some (.int r)) w := by
  refine zM_of (own := RX10) (by decide) rfl (Nat.le_of_ble_eq_true rfl) (fun x hl F hr hk hcs => ?_)
  subst hl
  refine z_ls [(0, zr G x0), (1, .int x1), (2, .int x2), (3, .int x3), (4, .int x4)] [0, 1, 2, 3, 4] rfl ?_
  unfold fX10_praises at h
  refine z_aload_n F dX10_praises_0 rfl 0 rfl ?_
  refine z_iconst (y := (0 : Int32)) F dX10_praises_1 rfl ?_
  refine zp_10_0 F t0 wF_X10_134 dX10_praises_2 ?_
  obtain ⟨v_1, ev_1, h⟩ := zlet_ex h
  refine z_heap ev_1 ?_
  refine z_aload_n F dX10_praises_5 rfl 0 rfl ?_
  refine z_aload_n F dX10_praises_6 rfl 0 rfl ?_
  refine z_iload_n F dX10_praises_7 rfl 1 rfl ?_
  obtain ⟨r_3, v_2, hq8, h⟩ := zbind_ex h
  refine z_callVi F [.int x1] [zr G x0] (kX10_isMan x.2.1 G x0 t0 x1 v_1 r_3 v_2 hq8) mI_X10_isMan (c := 10) rfl t0 wM_X10_298 mi_X10_isMan sl_X10_isMan dX10_praises_8 rfl ⟨Nat.le_of_ble_eq_true rfl, Nat.le_of_ble_eq_true rfl⟩ rfl (Nat.le_of_ble_eq_true rfl) ⟨Nat.zero_le _, Nat.zero_le _⟩ ?_
  refine z_if_ne F 18 dX10_praises_11 rfl (fun hc => ?_) (fun hc => ?_)
  · replace h := zif_f hc h
    refine z_iconst (y := (0 : Int32)) F dX10_praises_18 rfl ?_
    refine z_ls [(0, zr G x0), (1, .int x1), (2, .int x2), (3, .int x3), (4, .int x4)] [0, 1, 2, 3, 4] rfl ?_
    exact jX10_praises_19 x G F hr hk r w   x0 t0 x1 x2 x3 x4 x0 t0 (0 : Int32) v_2 h
  · replace h := zif_t hc h
    refine z_iconst (y := (1 : Int32)) F dX10_praises_14 rfl ?_
    refine z_goto F 19 dX10_praises_15 rfl ?_
    refine z_ls [(0, zr G x0), (1, .int x1), (2, .int x2), (3, .int x3), (4, .int x4)] [0, 1, 2, 3, 4] rfl ?_
    exact jX10_praises_19 x G F hr hk r w   x0 t0 x1 x2 x3 x4 x0 t0 (1 : Int32) v_2 h

theorem dX10_takenBy_0 : decode cX10_takenBy 0 = .ok (.aload_n 0, 1) := by decide +kernel
theorem dX10_takenBy_1 : decode cX10_takenBy 1 = .ok (.getfield 85, 3) := by decide +kernel
theorem dX10_takenBy_4 : decode cX10_takenBy 4 = .ok (.aload_n 0, 1) := by decide +kernel
theorem dX10_takenBy_5 : decode cX10_takenBy 5 = .ok (.getfield 94, 3) := by decide +kernel
theorem dX10_takenBy_8 : decode cX10_takenBy 8 = .ok (.invokestatic 237, 3) := by decide +kernel
theorem dX10_takenBy_11 : decode cX10_takenBy 11 = .ok (.iconst 0, 1) := by decide +kernel
theorem dX10_takenBy_12 : decode cX10_takenBy 12 = .ok (.istore 4, 2) := by decide +kernel
theorem dX10_takenBy_14 : decode cX10_takenBy 14 = .ok (.iload 4, 2) := by decide +kernel
theorem dX10_takenBy_16 : decode cX10_takenBy 16 = .ok (.iconst 2, 1) := by decide +kernel
theorem dX10_takenBy_17 : decode cX10_takenBy 17 = .ok (.if_icmp .ge 54, 3) := by decide +kernel
theorem dX10_takenBy_20 : decode cX10_takenBy 20 = .ok (.aload_n 0, 1) := by decide +kernel
theorem dX10_takenBy_21 : decode cX10_takenBy 21 = .ok (.getfield 100, 3) := by decide +kernel
theorem dX10_takenBy_24 : decode cX10_takenBy 24 = .ok (.iload 4, 2) := by decide +kernel
theorem dX10_takenBy_26 : decode cX10_takenBy 26 = .ok (.aaload, 1) := by decide +kernel
theorem dX10_takenBy_27 : decode cX10_takenBy 27 = .ok (.iconst 0, 1) := by decide +kernel
theorem dX10_takenBy_28 : decode cX10_takenBy 28 = .ok (.aload_n 0, 1) := by decide +kernel
theorem dX10_takenBy_29 : decode cX10_takenBy 29 = .ok (.getfield 85, 3) := by decide +kernel
theorem dX10_takenBy_32 : decode cX10_takenBy 32 = .ok (.bipush 99, 2) := by decide +kernel
theorem dX10_takenBy_34 : decode cX10_takenBy 34 = .ok (.iaload, 1) := by decide +kernel
theorem dX10_takenBy_35 : decode cX10_takenBy 35 = .ok (.iastore, 1) := by decide +kernel
theorem dX10_takenBy_36 : decode cX10_takenBy 36 = .ok (.aload_n 0, 1) := by decide +kernel
theorem dX10_takenBy_37 : decode cX10_takenBy 37 = .ok (.getfield 100, 3) := by decide +kernel
theorem dX10_takenBy_40 : decode cX10_takenBy 40 = .ok (.iload 4, 2) := by decide +kernel
theorem dX10_takenBy_42 : decode cX10_takenBy 42 = .ok (.aaload, 1) := by decide +kernel
theorem dX10_takenBy_43 : decode cX10_takenBy 43 = .ok (.iconst 1, 1) := by decide +kernel
theorem dX10_takenBy_44 : decode cX10_takenBy 44 = .ok (.iload 4, 2) := by decide +kernel
theorem dX10_takenBy_46 : decode cX10_takenBy 46 = .ok (.ifCond .ne 7, 3) := by decide +kernel
theorem dX10_takenBy_49 : decode cX10_takenBy 49 = .ok (.iload_n 1, 1) := by decide +kernel
theorem dX10_takenBy_50 : decode cX10_takenBy 50 = .ok (.goto 4, 3) := by decide +kernel
theorem dX10_takenBy_53 : decode cX10_takenBy 53 = .ok (.iload_n 2, 1) := by decide +kernel
theorem dX10_takenBy_54 : decode cX10_takenBy 54 = .ok (.iastore, 1) := by decide +kernel
theorem dX10_takenBy_55 : decode cX10_takenBy 55 = .ok (.aload_n 0, 1) := by decide +kernel
theorem dX10_takenBy_56 : decode cX10_takenBy 56 = .ok (.getfield 100, 3) := by decide +kernel
theorem dX10_takenBy_59 : decode cX10_takenBy 59 = .ok (.iload 4, 2) := by decide +kernel
theorem dX10_takenBy_61 : decode cX10_takenBy 61 = .ok (.aaload, 1) := by decide +kernel
theorem dX10_takenBy_62 : decode cX10_takenBy 62 = .ok (.iconst 2, 1) := by decide +kernel
theorem dX10_takenBy_63 : decode cX10_takenBy 63 = .ok (.iload_n 3, 1) := by decide +kernel
theorem dX10_takenBy_64 : decode cX10_takenBy 64 = .ok (.iastore, 1) := by decide +kernel
theorem dX10_takenBy_65 : decode cX10_takenBy 65 = .ok (.iinc 4 1, 3) := by decide +kernel
theorem dX10_takenBy_68 : decode cX10_takenBy 68 = .ok (.goto (-54), 3) := by decide +kernel
theorem dX10_takenBy_71 : decode cX10_takenBy 71 = .ok (.aload_n 0, 1) := by decide +kernel
theorem dX10_takenBy_72 : decode cX10_takenBy 72 = .ok (.iconst 2, 1) := by decide +kernel
theorem dX10_takenBy_73 : decode cX10_takenBy 73 = .ok (.putfield 310, 3) := by decide +kernel
theorem dX10_takenBy_76 : decode cX10_takenBy 76 = .ok (.aload_n 0, 1) := by decide +kernel
theorem dX10_takenBy_77 : decode cX10_takenBy 77 = .ok (.aload_n 0, 1) := by decide +kernel
theorem dX10_takenBy_78 : decode cX10_takenBy 78 = .ok (.getfield 94, 3) := by decide +kernel
theorem dX10_takenBy_81 : decode cX10_takenBy 81 = .ok (.invokevirtual 359, 3) := by decide +kernel
theorem dX10_takenBy_84 : decode cX10_takenBy 84 = .ok (.aload_n 0, 1) := by decide +kernel
theorem dX10_takenBy_85 : decode cX10_takenBy 85 = .ok (.iconst 0, 1) := by decide +kernel
theorem dX10_takenBy_86 : decode cX10_takenBy 86 = .ok (.putfield 310, 3) := by decide +kernel
theorem dX10_takenBy_89 : decode cX10_takenBy 89 = .ok (.aload_n 0, 1) := by decide +kernel
theorem dX10_takenBy_90 : decode cX10_takenBy 90 = .ok (.getfield 356, 3) := by decide +kernel
theorem dX10_takenBy_93 : decode cX10_takenBy 93 = .ok (.ireturn, 1) := by decide +kernel
def fX10_takenBy_71  (x0 : Nat) (v : zV) : Option (Int32 × zV) :=
  zlet (zup v x0 44 (2 : Int32)) fun v_1 =>
  zbindv (fX10_goes x0 (zrf x0 38) v_1) fun v_2 =>
  zlet (zup v_2 x0 44 (0 : Int32)) fun v_3 =>
  some (v_3 x0 50, v_3)
set_option maxRecDepth 4000 in
theorem jX10_takenBy_71 (x : zCx) (G : zG) (F : zF x G cX10_takenBy 5 RX10 7 215) (hr : x.2.2.2.2.2.2.2.2.1.sig.returnType = (Option.some FieldType.int)) (hk : x.2.2.2.2.2.2.2.2.1.locks = false) (r : Int32) (w : zV)  : ∀ (x0 : Nat) (t0 : zty G x0 1 10) (v : zV), fX10_takenBy_71 x0 v = some (r, w) → zJ x G 5 (zQ x G (some (.int r)) w 0 0) 0 0 71 [(0, zr G x0)] [] v := by
  intro x0 t0 v h
  unfold fX10_takenBy_71 at h
  refine z_aload_n F dX10_takenBy_71 rfl 0 rfl ?_
  refine z_iconst (y := (2 : Int32)) F dX10_takenBy_72 rfl ?_
  refine zp_10_44 F t0 wF_X10_310 dX10_takenBy_73 ?_
  obtain ⟨v_1, ev_1, h⟩ := zlet_ex h
  refine z_heap ev_1 ?_
  refine z_aload_n F dX10_takenBy_76 rfl 0 rfl ?_
  refine z_aload_n F dX10_takenBy_77 rfl 0 rfl ?_
  refine zg_10_38 F t0 wF_X10_94 dX10_takenBy_78 ?_
  obtain ⟨v_2, hq81, h⟩ := zbindv_ex h
  refine z_callVv F [zr G (zrf x0 38)] [] (kX10_goes x.2.1 G x0 t0 (zrf x0 38) (zt_f tc_10_38 t0) v_1 v_2 hq81) mI_X10_goes (c := 10) rfl t0 wM_X10_359 mi_X10_goes sl_X10_goes dX10_takenBy_81 rfl ⟨Nat.le_of_ble_eq_true rfl, Nat.le_of_ble_eq_true rfl⟩ rfl (Nat.le_of_ble_eq_true rfl) ⟨Nat.zero_le _, Nat.zero_le _⟩ ?_
  refine z_aload_n F dX10_takenBy_84 rfl 0 rfl ?_
  refine z_iconst (y := (0 : Int32)) F dX10_takenBy_85 rfl ?_
  refine zp_10_44 F t0 wF_X10_310 dX10_takenBy_86 ?_
  obtain ⟨v_3, ev_3, h⟩ := zlet_ex h
  refine z_heap ev_3 ?_
  refine z_aload_n F dX10_takenBy_89 rfl 0 rfl ?_
  refine zg_10_50 F t0 wF_X10_356 dX10_takenBy_90 ?_
  cases h
  exact z_reti F hr hk dX10_takenBy_93

def fX10_takenBy_14  : Nat → Nat → Int32 → Int32 → Int32 → Int32 → zV → Option (Int32 × zV)
  | 0 => fun _ _ _ _ _ _ => none
  | n + 1 => fun x0 x1 x2 x3 x4 v =>
    if (2 : Int32) ≤ x4 then
      fX10_takenBy_71  x0 v
    else
      zix x4 (zlen (zrf x0 43)) <|
      zix (99 : Int32) (zlen (zrf x0 35)) <|
      zix (0 : Int32) (zlen (zrf (zrf x0 43) (x4).toNatClampNeg)) <|
      zlet (zup v (zrf (zrf x0 43) (x4).toNatClampNeg) ((0 : Int32)).toNatClampNeg (v (zrf x0 35) ((99 : Int32)).toNatClampNeg)) fun v_1 =>
      zix x4 (zlen (zrf x0 43)) <|
      if x4 = (0 : Int32) then
        zix (1 : Int32) (zlen (zrf (zrf x0 43) (x4).toNatClampNeg)) <|
        zlet (zup v_1 (zrf (zrf x0 43) (x4).toNatClampNeg) ((1 : Int32)).toNatClampNeg x1) fun v_4 =>
        zix x4 (zlen (zrf x0 43)) <|
        zix (2 : Int32) (zlen (zrf (zrf x0 43) (x4).toNatClampNeg)) <|
        zlet (zup v_4 (zrf (zrf x0 43) (x4).toNatClampNeg) ((2 : Int32)).toNatClampNeg x3) fun v_5 =>
        (fX10_takenBy_14 n) x0 x1 x2 x3 (x4 + (1 : Int32)) v_5
      else
        zix (1 : Int32) (zlen (zrf (zrf x0 43) (x4).toNatClampNeg)) <|
        zlet (zup v_1 (zrf (zrf x0 43) (x4).toNatClampNeg) ((1 : Int32)).toNatClampNeg x2) fun v_2 =>
        zix x4 (zlen (zrf x0 43)) <|
        zix (2 : Int32) (zlen (zrf (zrf x0 43) (x4).toNatClampNeg)) <|
        zlet (zup v_2 (zrf (zrf x0 43) (x4).toNatClampNeg) ((2 : Int32)).toNatClampNeg x3) fun v_3 =>
        (fX10_takenBy_14 n) x0 x1 x2 x3 (x4 + (1 : Int32)) v_3
set_option maxRecDepth 4000 in
theorem jX10_takenBy_14 (x : zCx) (G : zG) (F : zF x G cX10_takenBy 5 RX10 7 215) (hr : x.2.2.2.2.2.2.2.2.1.sig.returnType = (Option.some FieldType.int)) (hk : x.2.2.2.2.2.2.2.2.1.locks = false) (r : Int32) (w : zV)  : ∀ (n : Nat) (x0 : Nat) (t0 : zty G x0 1 10) (x1 : Int32) (x2 : Int32) (x3 : Int32) (x4 : Int32) (v : zV), fX10_takenBy_14 n x0 x1 x2 x3 x4 v = some (r, w) → zJ x G 5 (zQ x G (some (.int r)) w 0 0) 0 0 14 [(0, zr G x0), (1, .int x1), (2, .int x2), (3, .int x3), (4, .int x4)] [] v := by
  intro n
  induction n with
  | zero => intro x0 t0 x1 x2 x3 x4 v h; exact absurd h (by intro q; cases q)
  | succ n ih =>
    intro x0 t0 x1 x2 x3 x4 v h
    rw [fX10_takenBy_14] at h
    dsimp only at h
    refine z_iload F dX10_takenBy_14 4 rfl ?_
    refine z_iconst (y := (2 : Int32)) F dX10_takenBy_16 rfl ?_
    refine z_icmp_ge F 71 dX10_takenBy_17 rfl (fun hc => ?_) (fun hc => ?_)
    · replace h := zif_t hc h
      refine z_ls [(0, zr G x0)] [0] rfl ?_
      exact jX10_takenBy_71 x G F hr hk r w   x0 t0 v h
    · replace h := zif_f hc h
      refine z_aload_n F dX10_takenBy_20 rfl 0 rfl ?_
      refine zg_10_43 F t0 wF_X10_100 dX10_takenBy_21 ?_
      refine z_iload F dX10_takenBy_24 4 rfl ?_
      obtain ⟨hi26, h⟩ := zix_ex h
      refine z_aald3 F (zt_f tc_10_43 t0) dX10_takenBy_26 hi26 ?_
      refine z_iconst (y := (0 : Int32)) F dX10_takenBy_27 rfl ?_
      refine z_aload_n F dX10_takenBy_28 rfl 0 rfl ?_
      refine zg_10_35 F t0 wF_X10_85 dX10_takenBy_29 ?_
      refine z_bipush (y := (99 : Int32)) F dX10_takenBy_32 rfl ?_
      obtain ⟨hi34, h⟩ := zix_ex h
      refine z_iald F (zt_f tc_10_35 t0) dX10_takenBy_34 hi34 ?_
      obtain ⟨hi35, h⟩ := zix_ex h
      refine z_iast F (zt_a tcA_3 (zt_f tc_10_43 t0) (zin_lt hi26)) dX10_takenBy_35 hi35 ?_
      obtain ⟨v_1, ev_1, h⟩ := zlet_ex h
      refine z_heap ev_1 ?_
      refine z_aload_n F dX10_takenBy_36 rfl 0 rfl ?_
      refine zg_10_43 F t0 wF_X10_100 dX10_takenBy_37 ?_
      refine z_iload F dX10_takenBy_40 4 rfl ?_
      obtain ⟨hi42, h⟩ := zix_ex h
      refine z_aald3 F (zt_f tc_10_43 t0) dX10_takenBy_42 hi42 ?_
      refine z_iconst (y := (1 : Int32)) F dX10_takenBy_43 rfl ?_
      refine z_iload F dX10_takenBy_44 4 rfl ?_
      refine z_if_ne F 53 dX10_takenBy_46 rfl (fun hc => ?_) (fun hc => ?_)
      · replace h := zif_f hc h
        refine z_iload_n F dX10_takenBy_53 rfl 2 rfl ?_
        obtain ⟨hi54, h⟩ := zix_ex h
        refine z_iast F (zt_a tcA_3 (zt_f tc_10_43 t0) (zin_lt hi42)) dX10_takenBy_54 hi54 ?_
        obtain ⟨v_2, ev_2, h⟩ := zlet_ex h
        refine z_heap ev_2 ?_
        refine z_aload_n F dX10_takenBy_55 rfl 0 rfl ?_
        refine zg_10_43 F t0 wF_X10_100 dX10_takenBy_56 ?_
        refine z_iload F dX10_takenBy_59 4 rfl ?_
        obtain ⟨hi61, h⟩ := zix_ex h
        refine z_aald3 F (zt_f tc_10_43 t0) dX10_takenBy_61 hi61 ?_
        refine z_iconst (y := (2 : Int32)) F dX10_takenBy_62 rfl ?_
        refine z_iload_n F dX10_takenBy_63 rfl 3 rfl ?_
        obtain ⟨hi64, h⟩ := zix_ex h
        refine z_iast F (zt_a tcA_3 (zt_f tc_10_43 t0) (zin_lt hi61)) dX10_takenBy_64 hi64 ?_
        obtain ⟨v_3, ev_3, h⟩ := zlet_ex h
        refine z_heap ev_3 ?_
        refine z_iinc F [(4, .int (x4 + (1 : Int32))), (0, zr G x0), (1, .int x1), (2, .int x2), (3, .int x3)] dX10_takenBy_65 4 rfl rfl (Nat.le_of_ble_eq_true rfl) rfl ?_
        refine z_goto F 14 dX10_takenBy_68 rfl ?_
        refine z_ls [(0, zr G x0), (1, .int x1), (2, .int x2), (3, .int x3), (4, .int (x4 + (1 : Int32)))] [1, 2, 3, 4, 0] rfl ?_
        exact ih x0 t0 x1 x2 x3 (x4 + (1 : Int32)) v_3 h
      · replace h := zif_t hc h
        refine z_iload_n F dX10_takenBy_49 rfl 1 rfl ?_
        refine z_goto F 54 dX10_takenBy_50 rfl ?_
        obtain ⟨hi54, h⟩ := zix_ex h
        refine z_iast F (zt_a tcA_3 (zt_f tc_10_43 t0) (zin_lt hi42)) dX10_takenBy_54 hi54 ?_
        obtain ⟨v_4, ev_4, h⟩ := zlet_ex h
        refine z_heap ev_4 ?_
        refine z_aload_n F dX10_takenBy_55 rfl 0 rfl ?_
        refine zg_10_43 F t0 wF_X10_100 dX10_takenBy_56 ?_
        refine z_iload F dX10_takenBy_59 4 rfl ?_
        obtain ⟨hi61, h⟩ := zix_ex h
        refine z_aald3 F (zt_f tc_10_43 t0) dX10_takenBy_61 hi61 ?_
        refine z_iconst (y := (2 : Int32)) F dX10_takenBy_62 rfl ?_
        refine z_iload_n F dX10_takenBy_63 rfl 3 rfl ?_
        obtain ⟨hi64, h⟩ := zix_ex h
        refine z_iast F (zt_a tcA_3 (zt_f tc_10_43 t0) (zin_lt hi61)) dX10_takenBy_64 hi64 ?_
        obtain ⟨v_5, ev_5, h⟩ := zlet_ex h
        refine z_heap ev_5 ?_
        refine z_iinc F [(4, .int (x4 + (1 : Int32))), (0, zr G x0), (1, .int x1), (2, .int x2), (3, .int x3)] dX10_takenBy_65 4 rfl rfl (Nat.le_of_ble_eq_true rfl) rfl ?_
        refine z_goto F 14 dX10_takenBy_68 rfl ?_
        refine z_ls [(0, zr G x0), (1, .int x1), (2, .int x2), (3, .int x3), (4, .int (x4 + (1 : Int32)))] [1, 2, 3, 4, 0] rfl ?_
        exact ih x0 t0 x1 x2 x3 (x4 + (1 : Int32)) v_5 h

def fX10_takenBy (x0 : Nat) (x1 : Int32) (x2 : Int32) (x3 : Int32) (v : zV) : Option (Int32 × zV) :=
  zbindv (fX10_copies (zrf x0 35) (zrf x0 38) v) fun v_1 =>
  fX10_takenBy_14  zFU x0 x1 x2 x3 (0 : Int32) v_1
set_option maxRecDepth 4000 in
theorem kX10_takenBy (l : Launch) (G : zG) (x0 : Nat) (t0 : zty G x0 1 10) (x1 : Int32) (x2 : Int32) (x3 : Int32) (v : zV) (r : Int32) (w : zV) (h : fX10_takenBy x0 x1 x2 x3 v = some (r, w)) : zMet l yX10_takenBy cX10_takenBy 5 (Option.some FieldType.int) 7 215 0 0 [zr G x0, .int x1, .int x2, .int x3] G v (some (.int r)) w := by
  refine zM_of (own := RX10) (by decide) rfl (Nat.le_of_ble_eq_true rfl) (fun x hl F hr hk hcs => ?_)
  subst hl
  refine z_ls [(0, zr G x0), (1, .int x1), (2, .int x2), (3, .int x3)] [0, 1, 2, 3] rfl ?_
  unfold fX10_takenBy at h
  refine z_aload_n F dX10_takenBy_0 rfl 0 rfl ?_
  refine zg_10_35 F t0 wF_X10_85 dX10_takenBy_1 ?_
  refine z_aload_n F dX10_takenBy_4 rfl 0 rfl ?_
  refine zg_10_38 F t0 wF_X10_94 dX10_takenBy_5 ?_
  obtain ⟨v_1, hq8, h⟩ := zbindv_ex h
  refine z_callSv F [zr G (zrf x0 35), zr G (zrf x0 38)] [] (kX10_copies x.2.1 G (zrf x0 35) (zt_f tc_10_35 t0) (zrf x0 38) (zt_f tc_10_38 t0) v v_1 hq8) mI_X10_copies wM_X10_237 ms_X10_copies dX10_takenBy_8 rfl ⟨Nat.le_of_ble_eq_true rfl, Nat.le_of_ble_eq_true rfl⟩ rfl (Nat.le_of_ble_eq_true rfl) ⟨Nat.zero_le _, Nat.zero_le _⟩ ?_
  refine z_iconst (y := (0 : Int32)) F dX10_takenBy_11 rfl ?_
  refine z_istore (n := 0) F [(4, .int (0 : Int32)), (0, zr G x0), (1, .int x1), (2, .int x2), (3, .int x3)] dX10_takenBy_12 (Nat.le_of_ble_eq_true rfl) rfl ?_
  refine z_ls [(0, zr G x0), (1, .int x1), (2, .int x2), (3, .int x3), (4, .int (0 : Int32))] [1, 2, 3, 4, 0] rfl ?_
  exact jX10_takenBy_14 x G F hr hk r w   zFU x0 t0 x1 x2 x3 (0 : Int32) v_1 h

theorem dX10_wants_0 : decode cX10_wants 0 = .ok (.aload_n 0, 1) := by decide +kernel
theorem dX10_wants_1 : decode cX10_wants 1 = .ok (.iconst 0, 1) := by decide +kernel
theorem dX10_wants_2 : decode cX10_wants 2 = .ok (.putfield 134, 3) := by decide +kernel
theorem dX10_wants_5 : decode cX10_wants 5 = .ok (.aload_n 0, 1) := by decide +kernel
theorem dX10_wants_6 : decode cX10_wants 6 = .ok (.aload_n 0, 1) := by decide +kernel
theorem dX10_wants_7 : decode cX10_wants 7 = .ok (.iload_n 1, 1) := by decide +kernel
theorem dX10_wants_8 : decode cX10_wants 8 = .ok (.invokevirtual 298, 3) := by decide +kernel
theorem dX10_wants_11 : decode cX10_wants 11 = .ok (.ifCond .ne 7, 3) := by decide +kernel
theorem dX10_wants_14 : decode cX10_wants 14 = .ok (.iconst 1, 1) := by decide +kernel
theorem dX10_wants_15 : decode cX10_wants 15 = .ok (.goto 4, 3) := by decide +kernel
theorem dX10_wants_18 : decode cX10_wants 18 = .ok (.iconst 0, 1) := by decide +kernel
theorem dX10_wants_19 : decode cX10_wants 19 = .ok (.iconst 1, 1) := by decide +kernel
theorem dX10_wants_20 : decode cX10_wants 20 = .ok (.iconst 0, 1) := by decide +kernel
theorem dX10_wants_21 : decode cX10_wants 21 = .ok (.invokevirtual 220, 3) := by decide +kernel
theorem dX10_wants_24 : decode cX10_wants 24 = .ok (.ifCond .eq 5, 3) := by decide +kernel
theorem dX10_wants_27 : decode cX10_wants 27 = .ok (.iconst 0, 1) := by decide +kernel
theorem dX10_wants_28 : decode cX10_wants 28 = .ok (.ireturn, 1) := by decide +kernel
theorem dX10_wants_29 : decode cX10_wants 29 = .ok (.aload_n 0, 1) := by decide +kernel
theorem dX10_wants_30 : decode cX10_wants 30 = .ok (.getfield 85, 3) := by decide +kernel
theorem dX10_wants_33 : decode cX10_wants 33 = .ok (.iconst 0, 1) := by decide +kernel
theorem dX10_wants_34 : decode cX10_wants 34 = .ok (.iload_n 1, 1) := by decide +kernel
theorem dX10_wants_35 : decode cX10_wants 35 = .ok (.iadd, 1) := by decide +kernel
theorem dX10_wants_36 : decode cX10_wants 36 = .ok (.iaload, 1) := by decide +kernel
theorem dX10_wants_37 : decode cX10_wants 37 = .ok (.ifCond .eq 5, 3) := by decide +kernel
theorem dX10_wants_40 : decode cX10_wants 40 = .ok (.iconst (-1), 1) := by decide +kernel
theorem dX10_wants_41 : decode cX10_wants 41 = .ok (.ireturn, 1) := by decide +kernel
theorem dX10_wants_42 : decode cX10_wants 42 = .ok (.iconst 0, 1) := by decide +kernel
theorem dX10_wants_43 : decode cX10_wants 43 = .ok (.istore_n 2, 1) := by decide +kernel
theorem dX10_wants_44 : decode cX10_wants 44 = .ok (.iload_n 2, 1) := by decide +kernel
theorem dX10_wants_45 : decode cX10_wants 45 = .ok (.bipush 99, 2) := by decide +kernel
theorem dX10_wants_47 : decode cX10_wants 47 = .ok (.if_icmp .gt 22, 3) := by decide +kernel
theorem dX10_wants_50 : decode cX10_wants 50 = .ok (.aload_n 0, 1) := by decide +kernel
theorem dX10_wants_51 : decode cX10_wants 51 = .ok (.iload_n 1, 1) := by decide +kernel
theorem dX10_wants_52 : decode cX10_wants 52 = .ok (.iconst (-1), 1) := by decide +kernel
theorem dX10_wants_53 : decode cX10_wants 53 = .ok (.iload_n 2, 1) := by decide +kernel
theorem dX10_wants_54 : decode cX10_wants 54 = .ok (.invokevirtual 375, 3) := by decide +kernel
theorem dX10_wants_57 : decode cX10_wants 57 = .ok (.iload_n 1, 1) := by decide +kernel
theorem dX10_wants_58 : decode cX10_wants 58 = .ok (.if_icmp .ne 5, 3) := by decide +kernel
theorem dX10_wants_61 : decode cX10_wants 61 = .ok (.iload_n 2, 1) := by decide +kernel
theorem dX10_wants_62 : decode cX10_wants 62 = .ok (.ireturn, 1) := by decide +kernel
theorem dX10_wants_63 : decode cX10_wants 63 = .ok (.iinc 2 1, 3) := by decide +kernel
theorem dX10_wants_66 : decode cX10_wants 66 = .ok (.goto (-22), 3) := by decide +kernel
theorem dX10_wants_69 : decode cX10_wants 69 = .ok (.iconst (-1), 1) := by decide +kernel
theorem dX10_wants_70 : decode cX10_wants 70 = .ok (.ireturn, 1) := by decide +kernel
def fX10_wants_44  : Nat → Nat → Int32 → Int32 → zV → Option (Int32 × zV)
  | 0 => fun _ _ _ _ => none
  | n + 1 => fun x0 x1 x2 v =>
    if (99 : Int32) < x2 then
      some ((-1 : Int32), v)
    else
      zbind (fX10_takenBy x0 x1 (-1 : Int32) x2 v) fun r_2 v_1 =>
      if r_2 = x1 then
        some (x2, v_1)
      else
        (fX10_wants_44 n) x0 x1 (x2 + (1 : Int32)) v_1
set_option maxRecDepth 4000 in
theorem jX10_wants_44 (x : zCx) (G : zG) (F : zF x G cX10_wants 3 RX10 8 239) (hr : x.2.2.2.2.2.2.2.2.1.sig.returnType = (Option.some FieldType.int)) (hk : x.2.2.2.2.2.2.2.2.1.locks = false) (r : Int32) (w : zV)  : ∀ (n : Nat) (x0 : Nat) (t0 : zty G x0 1 10) (x1 : Int32) (x2 : Int32) (v : zV), fX10_wants_44 n x0 x1 x2 v = some (r, w) → zJ x G 3 (zQ x G (some (.int r)) w 0 0) 0 0 44 [(0, zr G x0), (1, .int x1), (2, .int x2)] [] v := by
  intro n
  induction n with
  | zero => intro x0 t0 x1 x2 v h; exact absurd h (by intro q; cases q)
  | succ n ih =>
    intro x0 t0 x1 x2 v h
    rw [fX10_wants_44] at h
    dsimp only at h
    refine z_iload_n F dX10_wants_44 rfl 2 rfl ?_
    refine z_bipush (y := (99 : Int32)) F dX10_wants_45 rfl ?_
    refine z_icmp_gt F 69 dX10_wants_47 rfl (fun hc => ?_) (fun hc => ?_)
    · replace h := zif_t hc h
      refine z_iconst (y := (-1 : Int32)) F dX10_wants_69 rfl ?_
      cases h
      exact z_reti F hr hk dX10_wants_70
    · replace h := zif_f hc h
      refine z_aload_n F dX10_wants_50 rfl 0 rfl ?_
      refine z_iload_n F dX10_wants_51 rfl 1 rfl ?_
      refine z_iconst (y := (-1 : Int32)) F dX10_wants_52 rfl ?_
      refine z_iload_n F dX10_wants_53 rfl 2 rfl ?_
      obtain ⟨r_2, v_1, hq54, h⟩ := zbind_ex h
      refine z_callVi F [.int x1, .int (-1 : Int32), .int x2] [] (kX10_takenBy x.2.1 G x0 t0 x1 (-1 : Int32) x2 v r_2 v_1 hq54) mI_X10_takenBy (c := 10) rfl t0 wM_X10_375 mi_X10_takenBy sl_X10_takenBy dX10_wants_54 rfl ⟨Nat.le_of_ble_eq_true rfl, Nat.le_of_ble_eq_true rfl⟩ rfl (Nat.le_of_ble_eq_true rfl) ⟨Nat.zero_le _, Nat.zero_le _⟩ ?_
      refine z_iload_n F dX10_wants_57 rfl 1 rfl ?_
      refine z_icmp_ne F 63 dX10_wants_58 rfl (fun hc => ?_) (fun hc => ?_)
      · replace h := zif_f hc h
        refine z_iinc F [(2, .int (x2 + (1 : Int32))), (0, zr G x0), (1, .int x1)] dX10_wants_63 2 rfl rfl (Nat.le_of_ble_eq_true rfl) rfl ?_
        refine z_goto F 44 dX10_wants_66 rfl ?_
        refine z_ls [(0, zr G x0), (1, .int x1), (2, .int (x2 + (1 : Int32)))] [1, 2, 0] rfl ?_
        exact ih x0 t0 x1 (x2 + (1 : Int32)) v_1 h
      · replace h := zif_t hc h
        refine z_iload_n F dX10_wants_61 rfl 2 rfl ?_
        cases h
        exact z_reti F hr hk dX10_wants_62

def fX10_wants_19  (x0 : Nat) (x1 : Int32) (s0 : Nat) (s1 : Int32) (v : zV) : Option (Int32 × zV) :=
  zbind (fX10_bad s0 s1 (1 : Int32) (0 : Int32) v) fun r_2 v_1 =>
  if r_2 = (0 : Int32) then
    zix ((0 : Int32) + x1) (zlen (zrf x0 35)) <|
    if (v_1 (zrf x0 35) ((0 : Int32) + x1).toNatClampNeg) = (0 : Int32) then
      fX10_wants_44  zFU x0 x1 (0 : Int32) v_1
    else
      some ((-1 : Int32), v_1)
  else
    some ((0 : Int32), v_1)
set_option maxRecDepth 4000 in
theorem jX10_wants_19 (x : zCx) (G : zG) (F : zF x G cX10_wants 3 RX10 8 239) (hr : x.2.2.2.2.2.2.2.2.1.sig.returnType = (Option.some FieldType.int)) (hk : x.2.2.2.2.2.2.2.2.1.locks = false) (r : Int32) (w : zV)  : ∀ (x0 : Nat) (t0 : zty G x0 1 10) (x1 : Int32) (s0 : Nat) (ts0 : zty G s0 1 10) (s1 : Int32) (v : zV), fX10_wants_19 x0 x1 s0 s1 v = some (r, w) → zJ x G 3 (zQ x G (some (.int r)) w 0 0) 0 0 19 [(0, zr G x0), (1, .int x1)] [.int s1, zr G s0] v := by
  intro x0 t0 x1 s0 ts0 s1 v h
  unfold fX10_wants_19 at h
  refine z_iconst (y := (1 : Int32)) F dX10_wants_19 rfl ?_
  refine z_iconst (y := (0 : Int32)) F dX10_wants_20 rfl ?_
  obtain ⟨r_2, v_1, hq21, h⟩ := zbind_ex h
  refine z_callVi F [.int s1, .int (1 : Int32), .int (0 : Int32)] [] (kX10_bad x.2.1 G s0 ts0 s1 (1 : Int32) (0 : Int32) v r_2 v_1 hq21) mI_X10_bad (c := 10) rfl ts0 wM_X10_220 mi_X10_bad sl_X10_bad dX10_wants_21 rfl ⟨Nat.le_of_ble_eq_true rfl, Nat.le_of_ble_eq_true rfl⟩ rfl (Nat.le_of_ble_eq_true rfl) ⟨Nat.zero_le _, Nat.zero_le _⟩ ?_
  refine z_if_eq F 29 dX10_wants_24 rfl (fun hc => ?_) (fun hc => ?_)
  · replace h := zif_t hc h
    refine z_aload_n F dX10_wants_29 rfl 0 rfl ?_
    refine zg_10_35 F t0 wF_X10_85 dX10_wants_30 ?_
    refine z_iconst (y := (0 : Int32)) F dX10_wants_33 rfl ?_
    refine z_iload_n F dX10_wants_34 rfl 1 rfl ?_
    refine z_iadd F dX10_wants_35 ?_
    obtain ⟨hi36, h⟩ := zix_ex h
    refine z_iald F (zt_f tc_10_35 t0) dX10_wants_36 hi36 ?_
    refine z_if_eq F 42 dX10_wants_37 rfl (fun hc => ?_) (fun hc => ?_)
    · replace h := zif_t hc h
      refine z_iconst (y := (0 : Int32)) F dX10_wants_42 rfl ?_
      refine z_istore_n F [(2, .int (0 : Int32)), (0, zr G x0), (1, .int x1)] dX10_wants_43 rfl (Nat.le_of_ble_eq_true rfl) rfl ?_
      refine z_ls [(0, zr G x0), (1, .int x1), (2, .int (0 : Int32))] [1, 2, 0] rfl ?_
      exact jX10_wants_44 x G F hr hk r w   zFU x0 t0 x1 (0 : Int32) v_1 h
    · replace h := zif_f hc h
      refine z_iconst (y := (-1 : Int32)) F dX10_wants_40 rfl ?_
      cases h
      exact z_reti F hr hk dX10_wants_41
  · replace h := zif_f hc h
    refine z_iconst (y := (0 : Int32)) F dX10_wants_27 rfl ?_
    cases h
    exact z_reti F hr hk dX10_wants_28

def fX10_wants (x0 : Nat) (x1 : Int32) (v : zV) : Option (Int32 × zV) :=
  zlet (zup v x0 0 (0 : Int32)) fun v_1 =>
  zbind (fX10_isMan x0 x1 v_1) fun r_3 v_2 =>
  if r_3 = (0 : Int32) then
    fX10_wants_19  x0 x1 x0 (1 : Int32) v_2
  else
    fX10_wants_19  x0 x1 x0 (0 : Int32) v_2
set_option maxRecDepth 4000 in
theorem kX10_wants (l : Launch) (G : zG) (x0 : Nat) (t0 : zty G x0 1 10) (x1 : Int32) (v : zV) (r : Int32) (w : zV) (h : fX10_wants x0 x1 v = some (r, w)) : zMet l yX10_wants cX10_wants 3 (Option.some FieldType.int) 8 239 0 0 [zr G x0, .int x1] G v (some (.int r)) w := by
  refine zM_of (own := RX10) (by decide) rfl (Nat.le_of_ble_eq_true rfl) (fun x hl F hr hk hcs => ?_)
  subst hl
  refine z_ls [(0, zr G x0), (1, .int x1)] [0, 1] rfl ?_
  unfold fX10_wants at h
  refine z_aload_n F dX10_wants_0 rfl 0 rfl ?_
  refine z_iconst (y := (0 : Int32)) F dX10_wants_1 rfl ?_
  refine zp_10_0 F t0 wF_X10_134 dX10_wants_2 ?_
  obtain ⟨v_1, ev_1, h⟩ := zlet_ex h
  refine z_heap ev_1 ?_
  refine z_aload_n F dX10_wants_5 rfl 0 rfl ?_
  refine z_aload_n F dX10_wants_6 rfl 0 rfl ?_
  refine z_iload_n F dX10_wants_7 rfl 1 rfl ?_
  obtain ⟨r_3, v_2, hq8, h⟩ := zbind_ex h
  refine z_callVi F [.int x1] [zr G x0] (kX10_isMan x.2.1 G x0 t0 x1 v_1 r_3 v_2 hq8) mI_X10_isMan (c := 10) rfl t0 wM_X10_298 mi_X10_isMan sl_X10_isMan dX10_wants_8 rfl ⟨Nat.le_of_ble_eq_true rfl, Nat.le_of_ble_eq_true rfl⟩ rfl (Nat.le_of_ble_eq_true rfl) ⟨Nat.zero_le _, Nat.zero_le _⟩ ?_
  refine z_if_ne F 18 dX10_wants_11 rfl (fun hc => ?_) (fun hc => ?_)
  · replace h := zif_f hc h
    refine z_iconst (y := (0 : Int32)) F dX10_wants_18 rfl ?_
    refine z_ls [(0, zr G x0), (1, .int x1)] [0, 1] rfl ?_
    exact jX10_wants_19 x G F hr hk r w   x0 t0 x1 x0 t0 (0 : Int32) v_2 h
  · replace h := zif_t hc h
    refine z_iconst (y := (1 : Int32)) F dX10_wants_14 rfl ?_
    refine z_goto F 19 dX10_wants_15 rfl ?_
    refine z_ls [(0, zr G x0), (1, .int x1)] [0, 1] rfl ?_
    exact jX10_wants_19 x G F hr hk r w   x0 t0 x1 x0 t0 (1 : Int32) v_2 h

theorem dX10_mayDo_0 : decode cX10_mayDo 0 = .ok (.iload_n 1, 1) := by decide +kernel
theorem dX10_mayDo_1 : decode cX10_mayDo 1 = .ok (.iconst (-1), 1) := by decide +kernel
theorem dX10_mayDo_2 : decode cX10_mayDo 2 = .ok (.if_icmp .eq 14, 3) := by decide +kernel
theorem dX10_mayDo_5 : decode cX10_mayDo 5 = .ok (.aload_n 0, 1) := by decide +kernel
theorem dX10_mayDo_6 : decode cX10_mayDo 6 = .ok (.getfield 85, 3) := by decide +kernel
theorem dX10_mayDo_9 : decode cX10_mayDo 9 = .ok (.iconst 0, 1) := by decide +kernel
theorem dX10_mayDo_10 : decode cX10_mayDo 10 = .ok (.iload_n 1, 1) := by decide +kernel
theorem dX10_mayDo_11 : decode cX10_mayDo 11 = .ok (.iadd, 1) := by decide +kernel
theorem dX10_mayDo_12 : decode cX10_mayDo 12 = .ok (.iaload, 1) := by decide +kernel
theorem dX10_mayDo_13 : decode cX10_mayDo 13 = .ok (.ifCond .ne 7, 3) := by decide +kernel
theorem dX10_mayDo_16 : decode cX10_mayDo 16 = .ok (.iconst 1, 1) := by decide +kernel
theorem dX10_mayDo_17 : decode cX10_mayDo 17 = .ok (.goto 4, 3) := by decide +kernel
theorem dX10_mayDo_20 : decode cX10_mayDo 20 = .ok (.iconst 0, 1) := by decide +kernel
theorem dX10_mayDo_21 : decode cX10_mayDo 21 = .ok (.ireturn, 1) := by decide +kernel
def fX10_mayDo (x0 : Nat) (x1 : Int32) (v : zV) : Option (Int32 × zV) :=
  if x1 = (-1 : Int32) then
    some ((1 : Int32), v)
  else
    zix ((0 : Int32) + x1) (zlen (zrf x0 35)) <|
    if (v (zrf x0 35) ((0 : Int32) + x1).toNatClampNeg) = (0 : Int32) then
      some ((1 : Int32), v)
    else
      some ((0 : Int32), v)
set_option maxRecDepth 4000 in
theorem kX10_mayDo (l : Launch) (G : zG) (x0 : Nat) (t0 : zty G x0 1 10) (x1 : Int32) (v : zV) (r : Int32) (w : zV) (h : fX10_mayDo x0 x1 v = some (r, w)) : zMet l yX10_mayDo cX10_mayDo 2 (Option.some FieldType.boolean) 1 80 0 0 [zr G x0, .int x1] G v (some (.int r)) w := by
  refine zM_of (own := RX10) (by decide) rfl (Nat.le_of_ble_eq_true rfl) (fun x hl F hr hk hcs => ?_)
  subst hl
  refine z_ls [(0, zr G x0), (1, .int x1)] [0, 1] rfl ?_
  unfold fX10_mayDo at h
  refine z_iload_n F dX10_mayDo_0 rfl 1 rfl ?_
  refine z_iconst (y := (-1 : Int32)) F dX10_mayDo_1 rfl ?_
  refine z_icmp_eq F 16 dX10_mayDo_2 rfl (fun hc => ?_) (fun hc => ?_)
  · replace h := zif_t hc h
    refine z_iconst (y := (1 : Int32)) F dX10_mayDo_16 rfl ?_
    refine z_goto F 21 dX10_mayDo_17 rfl ?_
    cases h
    exact z_retz F hr hk rfl dX10_mayDo_21
  · replace h := zif_f hc h
    refine z_aload_n F dX10_mayDo_5 rfl 0 rfl ?_
    refine zg_10_35 F t0 wF_X10_85 dX10_mayDo_6 ?_
    refine z_iconst (y := (0 : Int32)) F dX10_mayDo_9 rfl ?_
    refine z_iload_n F dX10_mayDo_10 rfl 1 rfl ?_
    refine z_iadd F dX10_mayDo_11 ?_
    obtain ⟨hi12, h⟩ := zix_ex h
    refine z_iald F (zt_f tc_10_35 t0) dX10_mayDo_12 hi12 ?_
    refine z_if_ne F 20 dX10_mayDo_13 rfl (fun hc => ?_) (fun hc => ?_)
    · replace h := zif_f hc h
      refine z_iconst (y := (0 : Int32)) F dX10_mayDo_20 rfl ?_
      cases h
      exact z_retz F hr hk rfl dX10_mayDo_21
    · replace h := zif_t hc h
      refine z_iconst (y := (1 : Int32)) F dX10_mayDo_16 rfl ?_
      refine z_goto F 21 dX10_mayDo_17 rfl ?_
      cases h
      exact z_retz F hr hk rfl dX10_mayDo_21

theorem dX10_isQuiet_0 : decode cX10_isQuiet 0 = .ok (.aload_n 0, 1) := by decide +kernel
theorem dX10_isQuiet_1 : decode cX10_isQuiet 1 = .ok (.getfield 112, 3) := by decide +kernel
theorem dX10_isQuiet_4 : decode cX10_isQuiet 4 = .ok (.iload_n 2, 1) := by decide +kernel
theorem dX10_isQuiet_5 : decode cX10_isQuiet 5 = .ok (.aaload, 1) := by decide +kernel
theorem dX10_isQuiet_6 : decode cX10_isQuiet 6 = .ok (.iload_n 3, 1) := by decide +kernel
theorem dX10_isQuiet_7 : decode cX10_isQuiet 7 = .ok (.iaload, 1) := by decide +kernel
theorem dX10_isQuiet_8 : decode cX10_isQuiet 8 = .ok (.iload_n 1, 1) := by decide +kernel
theorem dX10_isQuiet_9 : decode cX10_isQuiet 9 = .ok (.if_icmp .ne 5, 3) := by decide +kernel
theorem dX10_isQuiet_12 : decode cX10_isQuiet 12 = .ok (.iconst 1, 1) := by decide +kernel
theorem dX10_isQuiet_13 : decode cX10_isQuiet 13 = .ok (.ireturn, 1) := by decide +kernel
theorem dX10_isQuiet_14 : decode cX10_isQuiet 14 = .ok (.iconst 0, 1) := by decide +kernel
theorem dX10_isQuiet_15 : decode cX10_isQuiet 15 = .ok (.istore 5, 2) := by decide +kernel
theorem dX10_isQuiet_17 : decode cX10_isQuiet 17 = .ok (.iload 5, 2) := by decide +kernel
theorem dX10_isQuiet_19 : decode cX10_isQuiet 19 = .ok (.aload_n 0, 1) := by decide +kernel
theorem dX10_isQuiet_20 : decode cX10_isQuiet 20 = .ok (.getfield 23, 3) := by decide +kernel
theorem dX10_isQuiet_23 : decode cX10_isQuiet 23 = .ok (.iconst 1, 1) := by decide +kernel
theorem dX10_isQuiet_24 : decode cX10_isQuiet 24 = .ok (.iaload, 1) := by decide +kernel
theorem dX10_isQuiet_25 : decode cX10_isQuiet 25 = .ok (.if_icmp .gt 54, 3) := by decide +kernel
theorem dX10_isQuiet_28 : decode cX10_isQuiet 28 = .ok (.aload_n 0, 1) := by decide +kernel
theorem dX10_isQuiet_29 : decode cX10_isQuiet 29 = .ok (.iload 5, 2) := by decide +kernel
theorem dX10_isQuiet_31 : decode cX10_isQuiet 31 = .ok (.iconst 1, 1) := by decide +kernel
theorem dX10_isQuiet_32 : decode cX10_isQuiet 32 = .ok (.isub, 1) := by decide +kernel
theorem dX10_isQuiet_33 : decode cX10_isQuiet 33 = .ok (.invokevirtual 378, 3) := by decide +kernel
theorem dX10_isQuiet_36 : decode cX10_isQuiet 36 = .ok (.ifCond .eq 37, 3) := by decide +kernel
theorem dX10_isQuiet_39 : decode cX10_isQuiet 39 = .ok (.aload_n 0, 1) := by decide +kernel
theorem dX10_isQuiet_40 : decode cX10_isQuiet 40 = .ok (.getfield 112, 3) := by decide +kernel
theorem dX10_isQuiet_43 : decode cX10_isQuiet 43 = .ok (.iload 4, 2) := by decide +kernel
theorem dX10_isQuiet_45 : decode cX10_isQuiet 45 = .ok (.ifCond .eq 8, 3) := by decide +kernel
theorem dX10_isQuiet_48 : decode cX10_isQuiet 48 = .ok (.iload 5, 2) := by decide +kernel
theorem dX10_isQuiet_50 : decode cX10_isQuiet 50 = .ok (.goto 4, 3) := by decide +kernel
theorem dX10_isQuiet_53 : decode cX10_isQuiet 53 = .ok (.iload_n 2, 1) := by decide +kernel
theorem dX10_isQuiet_54 : decode cX10_isQuiet 54 = .ok (.aaload, 1) := by decide +kernel
theorem dX10_isQuiet_55 : decode cX10_isQuiet 55 = .ok (.iload 4, 2) := by decide +kernel
theorem dX10_isQuiet_57 : decode cX10_isQuiet 57 = .ok (.ifCond .eq 7, 3) := by decide +kernel
theorem dX10_isQuiet_60 : decode cX10_isQuiet 60 = .ok (.iload_n 3, 1) := by decide +kernel
theorem dX10_isQuiet_61 : decode cX10_isQuiet 61 = .ok (.goto 5, 3) := by decide +kernel
theorem dX10_isQuiet_64 : decode cX10_isQuiet 64 = .ok (.iload 5, 2) := by decide +kernel
theorem dX10_isQuiet_66 : decode cX10_isQuiet 66 = .ok (.iaload, 1) := by decide +kernel
theorem dX10_isQuiet_67 : decode cX10_isQuiet 67 = .ok (.iload_n 1, 1) := by decide +kernel
theorem dX10_isQuiet_68 : decode cX10_isQuiet 68 = .ok (.if_icmp .ne 5, 3) := by decide +kernel
theorem dX10_isQuiet_71 : decode cX10_isQuiet 71 = .ok (.iconst 0, 1) := by decide +kernel
theorem dX10_isQuiet_72 : decode cX10_isQuiet 72 = .ok (.ireturn, 1) := by decide +kernel
theorem dX10_isQuiet_73 : decode cX10_isQuiet 73 = .ok (.iinc 5 1, 3) := by decide +kernel
theorem dX10_isQuiet_76 : decode cX10_isQuiet 76 = .ok (.goto (-59), 3) := by decide +kernel
theorem dX10_isQuiet_79 : decode cX10_isQuiet 79 = .ok (.iconst 1, 1) := by decide +kernel
theorem dX10_isQuiet_80 : decode cX10_isQuiet 80 = .ok (.ireturn, 1) := by decide +kernel
def fX10_isQuiet_54 (K17 : Nat → Int32 → Int32 → Int32 → Int32 → Int32 → zV → Option (Int32 × zV)) (x0 : Nat) (x1 : Int32) (x2 : Int32) (x3 : Int32) (x4 : Int32) (x5 : Int32) (s0 : Nat) (s1 : Int32) (v : zV) : Option (Int32 × zV) :=
  zix s1 (zlen s0) <|
  if x4 = (0 : Int32) then
    zix x5 (zlen (zrf s0 (s1).toNatClampNeg)) <|
    if (v (zrf s0 (s1).toNatClampNeg) (x5).toNatClampNeg) = x1 then
      some ((0 : Int32), v)
    else
      K17 x0 x1 x2 x3 x4 (x5 + (1 : Int32)) v
  else
    zix x3 (zlen (zrf s0 (s1).toNatClampNeg)) <|
    if (v (zrf s0 (s1).toNatClampNeg) (x3).toNatClampNeg) = x1 then
      some ((0 : Int32), v)
    else
      K17 x0 x1 x2 x3 x4 (x5 + (1 : Int32)) v
set_option maxRecDepth 4000 in
theorem jX10_isQuiet_54 (x : zCx) (G : zG) (F : zF x G cX10_isQuiet 6 RX10 2 101) (hr : x.2.2.2.2.2.2.2.2.1.sig.returnType = (Option.some FieldType.boolean)) (hk : x.2.2.2.2.2.2.2.2.1.locks = false) (r : Int32) (w : zV) (K17 : Nat → Int32 → Int32 → Int32 → Int32 → Int32 → zV → Option (Int32 × zV)) (hK17 : ∀ (x0 : Nat) (t0 : zty G x0 1 10) (x1 : Int32) (x2 : Int32) (x3 : Int32) (x4 : Int32) (x5 : Int32) (v : zV), K17 x0 x1 x2 x3 x4 x5 v = some (r, w) → zJ x G 6 (zQ x G (some (.int r)) w 0 0) 0 0 17 [(0, zr G x0), (1, .int x1), (2, .int x2), (3, .int x3), (4, .int x4), (5, .int x5)] [] v) : ∀ (x0 : Nat) (t0 : zty G x0 1 10) (x1 : Int32) (x2 : Int32) (x3 : Int32) (x4 : Int32) (x5 : Int32) (s0 : Nat) (ts0 : zty G s0 2 3) (s1 : Int32) (v : zV), fX10_isQuiet_54 K17 x0 x1 x2 x3 x4 x5 s0 s1 v = some (r, w) → zJ x G 6 (zQ x G (some (.int r)) w 0 0) 0 0 54 [(0, zr G x0), (1, .int x1), (2, .int x2), (3, .int x3), (4, .int x4), (5, .int x5)] [.int s1, zr G s0] v := by
  intro x0 t0 x1 x2 x3 x4 x5 s0 ts0 s1 v h
  unfold fX10_isQuiet_54 at h
  obtain ⟨hi54, h⟩ := zix_ex h
  refine z_aald3 F ts0 dX10_isQuiet_54 hi54 ?_
  refine z_iload F dX10_isQuiet_55 4 rfl ?_
  refine z_if_eq F 64 dX10_isQuiet_57 rfl (fun hc => ?_) (fun hc => ?_)
  · replace h := zif_t hc h
    refine z_iload F dX10_isQuiet_64 5 rfl ?_
    obtain ⟨hi66, h⟩ := zix_ex h
    refine z_iald F (zt_a tcA_3 ts0 (zin_lt hi54)) dX10_isQuiet_66 hi66 ?_
    refine z_iload_n F dX10_isQuiet_67 rfl 1 rfl ?_
    refine z_icmp_ne F 73 dX10_isQuiet_68 rfl (fun hc => ?_) (fun hc => ?_)
    · replace h := zif_f hc h
      refine z_iinc F [(5, .int (x5 + (1 : Int32))), (0, zr G x0), (1, .int x1), (2, .int x2), (3, .int x3), (4, .int x4)] dX10_isQuiet_73 5 rfl rfl (Nat.le_of_ble_eq_true rfl) rfl ?_
      refine z_goto F 17 dX10_isQuiet_76 rfl ?_
      refine z_ls [(0, zr G x0), (1, .int x1), (2, .int x2), (3, .int x3), (4, .int x4), (5, .int (x5 + (1 : Int32)))] [1, 2, 3, 4, 5, 0] rfl ?_
      exact hK17 x0 t0 x1 x2 x3 x4 (x5 + (1 : Int32)) v h
    · replace h := zif_t hc h
      refine z_iconst (y := (0 : Int32)) F dX10_isQuiet_71 rfl ?_
      cases h
      exact z_retz F hr hk rfl dX10_isQuiet_72
  · replace h := zif_f hc h
    refine z_iload_n F dX10_isQuiet_60 rfl 3 rfl ?_
    refine z_goto F 66 dX10_isQuiet_61 rfl ?_
    obtain ⟨hi66, h⟩ := zix_ex h
    refine z_iald F (zt_a tcA_3 ts0 (zin_lt hi54)) dX10_isQuiet_66 hi66 ?_
    refine z_iload_n F dX10_isQuiet_67 rfl 1 rfl ?_
    refine z_icmp_ne F 73 dX10_isQuiet_68 rfl (fun hc => ?_) (fun hc => ?_)
    · replace h := zif_f hc h
      refine z_iinc F [(5, .int (x5 + (1 : Int32))), (0, zr G x0), (1, .int x1), (2, .int x2), (3, .int x3), (4, .int x4)] dX10_isQuiet_73 5 rfl rfl (Nat.le_of_ble_eq_true rfl) rfl ?_
      refine z_goto F 17 dX10_isQuiet_76 rfl ?_
      refine z_ls [(0, zr G x0), (1, .int x1), (2, .int x2), (3, .int x3), (4, .int x4), (5, .int (x5 + (1 : Int32)))] [1, 2, 3, 4, 5, 0] rfl ?_
      exact hK17 x0 t0 x1 x2 x3 x4 (x5 + (1 : Int32)) v h
    · replace h := zif_t hc h
      refine z_iconst (y := (0 : Int32)) F dX10_isQuiet_71 rfl ?_
      cases h
      exact z_retz F hr hk rfl dX10_isQuiet_72

def fX10_isQuiet_17  : Nat → Nat → Int32 → Int32 → Int32 → Int32 → Int32 → zV → Option (Int32 × zV)
  | 0 => fun _ _ _ _ _ _ _ => none
  | n + 1 => fun x0 x1 x2 x3 x4 x5 v =>
    zix (1 : Int32) (zlen (zrf x0 12)) <|
    if (v (zrf x0 12) ((1 : Int32)).toNatClampNeg) < x5 then
      some ((1 : Int32), v)
    else
      zbind (fX10_mayDo x0 (x5 - (1 : Int32)) v) fun r_2 v_1 =>
      if r_2 = (0 : Int32) then
        (fX10_isQuiet_17 n) x0 x1 x2 x3 x4 (x5 + (1 : Int32)) v_1
      else
        if x4 = (0 : Int32) then
          fX10_isQuiet_54 (fX10_isQuiet_17 n) x0 x1 x2 x3 x4 x5 (zrf x0 54) x2 v_1
        else
          fX10_isQuiet_54 (fX10_isQuiet_17 n) x0 x1 x2 x3 x4 x5 (zrf x0 54) x5 v_1
set_option maxRecDepth 4000 in
theorem jX10_isQuiet_17 (x : zCx) (G : zG) (F : zF x G cX10_isQuiet 6 RX10 2 101) (hr : x.2.2.2.2.2.2.2.2.1.sig.returnType = (Option.some FieldType.boolean)) (hk : x.2.2.2.2.2.2.2.2.1.locks = false) (r : Int32) (w : zV)  : ∀ (n : Nat) (x0 : Nat) (t0 : zty G x0 1 10) (x1 : Int32) (x2 : Int32) (x3 : Int32) (x4 : Int32) (x5 : Int32) (v : zV), fX10_isQuiet_17 n x0 x1 x2 x3 x4 x5 v = some (r, w) → zJ x G 6 (zQ x G (some (.int r)) w 0 0) 0 0 17 [(0, zr G x0), (1, .int x1), (2, .int x2), (3, .int x3), (4, .int x4), (5, .int x5)] [] v := by
  intro n
  induction n with
  | zero => intro x0 t0 x1 x2 x3 x4 x5 v h; exact absurd h (by intro q; cases q)
  | succ n ih =>
    intro x0 t0 x1 x2 x3 x4 x5 v h
    rw [fX10_isQuiet_17] at h
    dsimp only at h
    refine z_iload F dX10_isQuiet_17 5 rfl ?_
    refine z_aload_n F dX10_isQuiet_19 rfl 0 rfl ?_
    refine zg_10_12 F t0 wF_X10_23 dX10_isQuiet_20 ?_
    refine z_iconst (y := (1 : Int32)) F dX10_isQuiet_23 rfl ?_
    obtain ⟨hi24, h⟩ := zix_ex h
    refine z_iald F (zt_f tc_10_12 t0) dX10_isQuiet_24 hi24 ?_
    refine z_icmp_gt F 79 dX10_isQuiet_25 rfl (fun hc => ?_) (fun hc => ?_)
    · replace h := zif_t hc h
      refine z_iconst (y := (1 : Int32)) F dX10_isQuiet_79 rfl ?_
      cases h
      exact z_retz F hr hk rfl dX10_isQuiet_80
    · replace h := zif_f hc h
      refine z_aload_n F dX10_isQuiet_28 rfl 0 rfl ?_
      refine z_iload F dX10_isQuiet_29 5 rfl ?_
      refine z_iconst (y := (1 : Int32)) F dX10_isQuiet_31 rfl ?_
      refine z_isub F dX10_isQuiet_32 ?_
      obtain ⟨r_2, v_1, hq33, h⟩ := zbind_ex h
      refine z_callVi F [.int (x5 - (1 : Int32))] [] (kX10_mayDo x.2.1 G x0 t0 (x5 - (1 : Int32)) v r_2 v_1 hq33) mI_X10_mayDo (c := 10) rfl t0 wM_X10_378 mi_X10_mayDo sl_X10_mayDo dX10_isQuiet_33 rfl ⟨Nat.le_of_ble_eq_true rfl, Nat.le_of_ble_eq_true rfl⟩ rfl (Nat.le_of_ble_eq_true rfl) ⟨Nat.zero_le _, Nat.zero_le _⟩ ?_
      refine z_if_eq F 73 dX10_isQuiet_36 rfl (fun hc => ?_) (fun hc => ?_)
      · replace h := zif_t hc h
        refine z_iinc F [(5, .int (x5 + (1 : Int32))), (0, zr G x0), (1, .int x1), (2, .int x2), (3, .int x3), (4, .int x4)] dX10_isQuiet_73 5 rfl rfl (Nat.le_of_ble_eq_true rfl) rfl ?_
        refine z_goto F 17 dX10_isQuiet_76 rfl ?_
        refine z_ls [(0, zr G x0), (1, .int x1), (2, .int x2), (3, .int x3), (4, .int x4), (5, .int (x5 + (1 : Int32)))] [1, 2, 3, 4, 5, 0] rfl ?_
        exact ih x0 t0 x1 x2 x3 x4 (x5 + (1 : Int32)) v_1 h
      · replace h := zif_f hc h
        refine z_aload_n F dX10_isQuiet_39 rfl 0 rfl ?_
        refine zg_10_54 F t0 wF_X10_112 dX10_isQuiet_40 ?_
        refine z_iload F dX10_isQuiet_43 4 rfl ?_
        refine z_if_eq F 53 dX10_isQuiet_45 rfl (fun hc => ?_) (fun hc => ?_)
        · replace h := zif_t hc h
          refine z_iload_n F dX10_isQuiet_53 rfl 2 rfl ?_
          refine z_ls [(0, zr G x0), (1, .int x1), (2, .int x2), (3, .int x3), (4, .int x4), (5, .int x5)] [0, 1, 2, 3, 4, 5] rfl ?_
          exact jX10_isQuiet_54 x G F hr hk r w (fX10_isQuiet_17 n) ih x0 t0 x1 x2 x3 x4 x5 (zrf x0 54) (zt_f tc_10_54 t0) x2 v_1 h
        · replace h := zif_f hc h
          refine z_iload F dX10_isQuiet_48 5 rfl ?_
          refine z_goto F 54 dX10_isQuiet_50 rfl ?_
          refine z_ls [(0, zr G x0), (1, .int x1), (2, .int x2), (3, .int x3), (4, .int x4), (5, .int x5)] [0, 1, 2, 3, 4, 5] rfl ?_
          exact jX10_isQuiet_54 x G F hr hk r w (fX10_isQuiet_17 n) ih x0 t0 x1 x2 x3 x4 x5 (zrf x0 54) (zt_f tc_10_54 t0) x5 v_1 h

def fX10_isQuiet (x0 : Nat) (x1 : Int32) (x2 : Int32) (x3 : Int32) (x4 : Int32) (v : zV) : Option (Int32 × zV) :=
  zix x2 (zlen (zrf x0 54)) <|
  zix x3 (zlen (zrf (zrf x0 54) (x2).toNatClampNeg)) <|
  if (v (zrf (zrf x0 54) (x2).toNatClampNeg) (x3).toNatClampNeg) = x1 then
    some ((1 : Int32), v)
  else
    fX10_isQuiet_17  zFU x0 x1 x2 x3 x4 (0 : Int32) v
set_option maxRecDepth 4000 in
theorem kX10_isQuiet (l : Launch) (G : zG) (x0 : Nat) (t0 : zty G x0 1 10) (x1 : Int32) (x2 : Int32) (x3 : Int32) (x4 : Int32) (v : zV) (r : Int32) (w : zV) (h : fX10_isQuiet x0 x1 x2 x3 x4 v = some (r, w)) : zMet l yX10_isQuiet cX10_isQuiet 6 (Option.some FieldType.boolean) 2 101 0 0 [zr G x0, .int x1, .int x2, .int x3, .int x4] G v (some (.int r)) w := by
  refine zM_of (own := RX10) (by decide) rfl (Nat.le_of_ble_eq_true rfl) (fun x hl F hr hk hcs => ?_)
  subst hl
  refine z_ls [(0, zr G x0), (1, .int x1), (2, .int x2), (3, .int x3), (4, .int x4)] [0, 1, 2, 3, 4] rfl ?_
  unfold fX10_isQuiet at h
  refine z_aload_n F dX10_isQuiet_0 rfl 0 rfl ?_
  refine zg_10_54 F t0 wF_X10_112 dX10_isQuiet_1 ?_
  refine z_iload_n F dX10_isQuiet_4 rfl 2 rfl ?_
  obtain ⟨hi5, h⟩ := zix_ex h
  refine z_aald3 F (zt_f tc_10_54 t0) dX10_isQuiet_5 hi5 ?_
  refine z_iload_n F dX10_isQuiet_6 rfl 3 rfl ?_
  obtain ⟨hi7, h⟩ := zix_ex h
  refine z_iald F (zt_a tcA_3 (zt_f tc_10_54 t0) (zin_lt hi5)) dX10_isQuiet_7 hi7 ?_
  refine z_iload_n F dX10_isQuiet_8 rfl 1 rfl ?_
  refine z_icmp_ne F 14 dX10_isQuiet_9 rfl (fun hc => ?_) (fun hc => ?_)
  · replace h := zif_f hc h
    refine z_iconst (y := (0 : Int32)) F dX10_isQuiet_14 rfl ?_
    refine z_istore (n := 0) F [(5, .int (0 : Int32)), (0, zr G x0), (1, .int x1), (2, .int x2), (3, .int x3), (4, .int x4)] dX10_isQuiet_15 (Nat.le_of_ble_eq_true rfl) rfl ?_
    refine z_ls [(0, zr G x0), (1, .int x1), (2, .int x2), (3, .int x3), (4, .int x4), (5, .int (0 : Int32))] [1, 2, 3, 4, 5, 0] rfl ?_
    exact jX10_isQuiet_17 x G F hr hk r w   zFU x0 t0 x1 x2 x3 x4 (0 : Int32) v h
  · replace h := zif_t hc h
    refine z_iconst (y := (1 : Int32)) F dX10_isQuiet_12 rfl ?_
    cases h
    exact z_retz F hr hk rfl dX10_isQuiet_13

theorem dX10_patrons_0 : decode cX10_patrons 0 = .ok (.aload_n 0, 1) := by decide +kernel
theorem dX10_patrons_1 : decode cX10_patrons 1 = .ok (.iconst 0, 1) := by decide +kernel
theorem dX10_patrons_2 : decode cX10_patrons 2 = .ok (.putfield 134, 3) := by decide +kernel
theorem dX10_patrons_5 : decode cX10_patrons 5 = .ok (.aload_n 0, 1) := by decide +kernel
theorem dX10_patrons_6 : decode cX10_patrons 6 = .ok (.aload_n 0, 1) := by decide +kernel
theorem dX10_patrons_7 : decode cX10_patrons 7 = .ok (.iload_n 1, 1) := by decide +kernel
theorem dX10_patrons_8 : decode cX10_patrons 8 = .ok (.invokevirtual 298, 3) := by decide +kernel
theorem dX10_patrons_11 : decode cX10_patrons 11 = .ok (.ifCond .eq 11, 3) := by decide +kernel
theorem dX10_patrons_14 : decode cX10_patrons 14 = .ok (.aload_n 0, 1) := by decide +kernel
theorem dX10_patrons_15 : decode cX10_patrons 15 = .ok (.iload_n 2, 1) := by decide +kernel
theorem dX10_patrons_16 : decode cX10_patrons 16 = .ok (.invokevirtual 298, 3) := by decide +kernel
theorem dX10_patrons_19 : decode cX10_patrons 19 = .ok (.ifCond .ne 7, 3) := by decide +kernel
theorem dX10_patrons_22 : decode cX10_patrons 22 = .ok (.iconst 1, 1) := by decide +kernel
theorem dX10_patrons_23 : decode cX10_patrons 23 = .ok (.goto 4, 3) := by decide +kernel
theorem dX10_patrons_26 : decode cX10_patrons 26 = .ok (.iconst 0, 1) := by decide +kernel
theorem dX10_patrons_27 : decode cX10_patrons 27 = .ok (.iconst 1, 1) := by decide +kernel
theorem dX10_patrons_28 : decode cX10_patrons 28 = .ok (.iconst 0, 1) := by decide +kernel
theorem dX10_patrons_29 : decode cX10_patrons 29 = .ok (.invokevirtual 220, 3) := by decide +kernel
theorem dX10_patrons_32 : decode cX10_patrons 32 = .ok (.ifCond .ne 64, 3) := by decide +kernel
theorem dX10_patrons_35 : decode cX10_patrons 35 = .ok (.aload_n 0, 1) := by decide +kernel
theorem dX10_patrons_36 : decode cX10_patrons 36 = .ok (.iload_n 1, 1) := by decide +kernel
theorem dX10_patrons_37 : decode cX10_patrons 37 = .ok (.iload_n 2, 1) := by decide +kernel
theorem dX10_patrons_38 : decode cX10_patrons 38 = .ok (.if_icmp .eq 45, 3) := by decide +kernel
theorem dX10_patrons_41 : decode cX10_patrons 41 = .ok (.aload_n 0, 1) := by decide +kernel
theorem dX10_patrons_42 : decode cX10_patrons 42 = .ok (.getfield 85, 3) := by decide +kernel
theorem dX10_patrons_45 : decode cX10_patrons 45 = .ok (.iconst 0, 1) := by decide +kernel
theorem dX10_patrons_46 : decode cX10_patrons 46 = .ok (.iload_n 1, 1) := by decide +kernel
theorem dX10_patrons_47 : decode cX10_patrons 47 = .ok (.iadd, 1) := by decide +kernel
theorem dX10_patrons_48 : decode cX10_patrons 48 = .ok (.iaload, 1) := by decide +kernel
theorem dX10_patrons_49 : decode cX10_patrons 49 = .ok (.ifCond .ne 34, 3) := by decide +kernel
theorem dX10_patrons_52 : decode cX10_patrons 52 = .ok (.aload_n 0, 1) := by decide +kernel
theorem dX10_patrons_53 : decode cX10_patrons 53 = .ok (.getfield 85, 3) := by decide +kernel
theorem dX10_patrons_56 : decode cX10_patrons 56 = .ok (.iconst 0, 1) := by decide +kernel
theorem dX10_patrons_57 : decode cX10_patrons 57 = .ok (.iload_n 2, 1) := by decide +kernel
theorem dX10_patrons_58 : decode cX10_patrons 58 = .ok (.iadd, 1) := by decide +kernel
theorem dX10_patrons_59 : decode cX10_patrons 59 = .ok (.iaload, 1) := by decide +kernel
theorem dX10_patrons_60 : decode cX10_patrons 60 = .ok (.ifCond .ne 23, 3) := by decide +kernel
theorem dX10_patrons_63 : decode cX10_patrons 63 = .ok (.iload_n 3, 1) := by decide +kernel
theorem dX10_patrons_64 : decode cX10_patrons 64 = .ok (.iconst 1, 1) := by decide +kernel
theorem dX10_patrons_65 : decode cX10_patrons 65 = .ok (.bipush 99, 2) := by decide +kernel
theorem dX10_patrons_67 : decode cX10_patrons 67 = .ok (.invokestatic 168, 3) := by decide +kernel
theorem dX10_patrons_70 : decode cX10_patrons 70 = .ok (.ifCond .eq 13, 3) := by decide +kernel
theorem dX10_patrons_73 : decode cX10_patrons 73 = .ok (.iload 4, 2) := by decide +kernel
theorem dX10_patrons_75 : decode cX10_patrons 75 = .ok (.iconst 0, 1) := by decide +kernel
theorem dX10_patrons_76 : decode cX10_patrons 76 = .ok (.iconst 1, 1) := by decide +kernel
theorem dX10_patrons_77 : decode cX10_patrons 77 = .ok (.invokestatic 168, 3) := by decide +kernel
theorem dX10_patrons_80 : decode cX10_patrons 80 = .ok (.ifCond .ne 7, 3) := by decide +kernel
theorem dX10_patrons_83 : decode cX10_patrons 83 = .ok (.iconst 1, 1) := by decide +kernel
theorem dX10_patrons_84 : decode cX10_patrons 84 = .ok (.goto 4, 3) := by decide +kernel
theorem dX10_patrons_87 : decode cX10_patrons 87 = .ok (.iconst 0, 1) := by decide +kernel
theorem dX10_patrons_88 : decode cX10_patrons 88 = .ok (.iconst 2, 1) := by decide +kernel
theorem dX10_patrons_89 : decode cX10_patrons 89 = .ok (.iconst 1, 1) := by decide +kernel
theorem dX10_patrons_90 : decode cX10_patrons 90 = .ok (.invokevirtual 220, 3) := by decide +kernel
theorem dX10_patrons_93 : decode cX10_patrons 93 = .ok (.ifCond .eq 5, 3) := by decide +kernel
theorem dX10_patrons_96 : decode cX10_patrons 96 = .ok (.iconst 0, 1) := by decide +kernel
theorem dX10_patrons_97 : decode cX10_patrons 97 = .ok (.ireturn, 1) := by decide +kernel
theorem dX10_patrons_98 : decode cX10_patrons 98 = .ok (.iconst 0, 1) := by decide +kernel
theorem dX10_patrons_99 : decode cX10_patrons 99 = .ok (.istore 5, 2) := by decide +kernel
theorem dX10_patrons_101 : decode cX10_patrons 101 = .ok (.iload 5, 2) := by decide +kernel
theorem dX10_patrons_103 : decode cX10_patrons 103 = .ok (.aload_n 0, 1) := by decide +kernel
theorem dX10_patrons_104 : decode cX10_patrons 104 = .ok (.getfield 23, 3) := by decide +kernel
theorem dX10_patrons_107 : decode cX10_patrons 107 = .ok (.iconst 1, 1) := by decide +kernel
theorem dX10_patrons_108 : decode cX10_patrons 108 = .ok (.iaload, 1) := by decide +kernel
theorem dX10_patrons_109 : decode cX10_patrons 109 = .ok (.if_icmp .gt 74, 3) := by decide +kernel
theorem dX10_patrons_112 : decode cX10_patrons 112 = .ok (.iconst 0, 1) := by decide +kernel
theorem dX10_patrons_113 : decode cX10_patrons 113 = .ok (.istore 6, 2) := by decide +kernel
theorem dX10_patrons_115 : decode cX10_patrons 115 = .ok (.iload 6, 2) := by decide +kernel
theorem dX10_patrons_117 : decode cX10_patrons 117 = .ok (.aload_n 0, 1) := by decide +kernel
theorem dX10_patrons_118 : decode cX10_patrons 118 = .ok (.getfield 23, 3) := by decide +kernel
theorem dX10_patrons_121 : decode cX10_patrons 121 = .ok (.iconst 1, 1) := by decide +kernel
theorem dX10_patrons_122 : decode cX10_patrons 122 = .ok (.iaload, 1) := by decide +kernel
theorem dX10_patrons_123 : decode cX10_patrons 123 = .ok (.if_icmp .gt 54, 3) := by decide +kernel
theorem dX10_patrons_126 : decode cX10_patrons 126 = .ok (.aload_n 0, 1) := by decide +kernel
theorem dX10_patrons_127 : decode cX10_patrons 127 = .ok (.iload 5, 2) := by decide +kernel
theorem dX10_patrons_129 : decode cX10_patrons 129 = .ok (.iconst 1, 1) := by decide +kernel
theorem dX10_patrons_130 : decode cX10_patrons 130 = .ok (.isub, 1) := by decide +kernel
theorem dX10_patrons_131 : decode cX10_patrons 131 = .ok (.invokevirtual 378, 3) := by decide +kernel
theorem dX10_patrons_134 : decode cX10_patrons 134 = .ok (.ifCond .eq 37, 3) := by decide +kernel
theorem dX10_patrons_137 : decode cX10_patrons 137 = .ok (.aload_n 0, 1) := by decide +kernel
theorem dX10_patrons_138 : decode cX10_patrons 138 = .ok (.iload 6, 2) := by decide +kernel
theorem dX10_patrons_140 : decode cX10_patrons 140 = .ok (.iconst 1, 1) := by decide +kernel
theorem dX10_patrons_141 : decode cX10_patrons 141 = .ok (.isub, 1) := by decide +kernel
theorem dX10_patrons_142 : decode cX10_patrons 142 = .ok (.invokevirtual 378, 3) := by decide +kernel
theorem dX10_patrons_145 : decode cX10_patrons 145 = .ok (.ifCond .eq 26, 3) := by decide +kernel
theorem dX10_patrons_148 : decode cX10_patrons 148 = .ok (.aload_n 0, 1) := by decide +kernel
theorem dX10_patrons_149 : decode cX10_patrons 149 = .ok (.getfield 112, 3) := by decide +kernel
theorem dX10_patrons_152 : decode cX10_patrons 152 = .ok (.iload 5, 2) := by decide +kernel
theorem dX10_patrons_154 : decode cX10_patrons 154 = .ok (.aaload, 1) := by decide +kernel
theorem dX10_patrons_155 : decode cX10_patrons 155 = .ok (.iload 6, 2) := by decide +kernel
theorem dX10_patrons_157 : decode cX10_patrons 157 = .ok (.aload_n 0, 1) := by decide +kernel
theorem dX10_patrons_158 : decode cX10_patrons 158 = .ok (.iload 5, 2) := by decide +kernel
theorem dX10_patrons_160 : decode cX10_patrons 160 = .ok (.iconst 1, 1) := by decide +kernel
theorem dX10_patrons_161 : decode cX10_patrons 161 = .ok (.isub, 1) := by decide +kernel
theorem dX10_patrons_162 : decode cX10_patrons 162 = .ok (.iload 6, 2) := by decide +kernel
theorem dX10_patrons_164 : decode cX10_patrons 164 = .ok (.iconst 1, 1) := by decide +kernel
theorem dX10_patrons_165 : decode cX10_patrons 165 = .ok (.isub, 1) := by decide +kernel
theorem dX10_patrons_166 : decode cX10_patrons 166 = .ok (.iload_n 3, 1) := by decide +kernel
theorem dX10_patrons_167 : decode cX10_patrons 167 = .ok (.invokevirtual 375, 3) := by decide +kernel
theorem dX10_patrons_170 : decode cX10_patrons 170 = .ok (.iastore, 1) := by decide +kernel
theorem dX10_patrons_171 : decode cX10_patrons 171 = .ok (.iinc 6 1, 3) := by decide +kernel
theorem dX10_patrons_174 : decode cX10_patrons 174 = .ok (.goto (-59), 3) := by decide +kernel
theorem dX10_patrons_177 : decode cX10_patrons 177 = .ok (.iinc 5 1, 3) := by decide +kernel
theorem dX10_patrons_180 : decode cX10_patrons 180 = .ok (.goto (-79), 3) := by decide +kernel
theorem dX10_patrons_183 : decode cX10_patrons 183 = .ok (.iconst 0, 1) := by decide +kernel
theorem dX10_patrons_184 : decode cX10_patrons 184 = .ok (.istore 5, 2) := by decide +kernel
theorem dX10_patrons_186 : decode cX10_patrons 186 = .ok (.iconst (-1), 1) := by decide +kernel
theorem dX10_patrons_187 : decode cX10_patrons 187 = .ok (.istore 6, 2) := by decide +kernel
theorem dX10_patrons_189 : decode cX10_patrons 189 = .ok (.iconst 0, 1) := by decide +kernel
theorem dX10_patrons_190 : decode cX10_patrons 190 = .ok (.istore 7, 2) := by decide +kernel
theorem dX10_patrons_192 : decode cX10_patrons 192 = .ok (.iload 7, 2) := by decide +kernel
theorem dX10_patrons_194 : decode cX10_patrons 194 = .ok (.aload_n 0, 1) := by decide +kernel
theorem dX10_patrons_195 : decode cX10_patrons 195 = .ok (.getfield 23, 3) := by decide +kernel
theorem dX10_patrons_198 : decode cX10_patrons 198 = .ok (.iconst 1, 1) := by decide +kernel
theorem dX10_patrons_199 : decode cX10_patrons 199 = .ok (.iaload, 1) := by decide +kernel
theorem dX10_patrons_200 : decode cX10_patrons 200 = .ok (.if_icmp .gt 103, 3) := by decide +kernel
theorem dX10_patrons_203 : decode cX10_patrons 203 = .ok (.iconst 0, 1) := by decide +kernel
theorem dX10_patrons_204 : decode cX10_patrons 204 = .ok (.istore 8, 2) := by decide +kernel
theorem dX10_patrons_206 : decode cX10_patrons 206 = .ok (.iload 8, 2) := by decide +kernel
theorem dX10_patrons_208 : decode cX10_patrons 208 = .ok (.aload_n 0, 1) := by decide +kernel
theorem dX10_patrons_209 : decode cX10_patrons 209 = .ok (.getfield 23, 3) := by decide +kernel
theorem dX10_patrons_212 : decode cX10_patrons 212 = .ok (.iconst 1, 1) := by decide +kernel
theorem dX10_patrons_213 : decode cX10_patrons 213 = .ok (.iaload, 1) := by decide +kernel
theorem dX10_patrons_214 : decode cX10_patrons 214 = .ok (.if_icmp .gt 83, 3) := by decide +kernel
theorem dX10_patrons_217 : decode cX10_patrons 217 = .ok (.aload_n 0, 1) := by decide +kernel
theorem dX10_patrons_218 : decode cX10_patrons 218 = .ok (.iload 7, 2) := by decide +kernel
theorem dX10_patrons_220 : decode cX10_patrons 220 = .ok (.iconst 1, 1) := by decide +kernel
theorem dX10_patrons_221 : decode cX10_patrons 221 = .ok (.isub, 1) := by decide +kernel
theorem dX10_patrons_222 : decode cX10_patrons 222 = .ok (.invokevirtual 378, 3) := by decide +kernel
theorem dX10_patrons_225 : decode cX10_patrons 225 = .ok (.ifCond .eq 66, 3) := by decide +kernel
theorem dX10_patrons_228 : decode cX10_patrons 228 = .ok (.aload_n 0, 1) := by decide +kernel
theorem dX10_patrons_229 : decode cX10_patrons 229 = .ok (.iload 8, 2) := by decide +kernel
theorem dX10_patrons_231 : decode cX10_patrons 231 = .ok (.iconst 1, 1) := by decide +kernel
theorem dX10_patrons_232 : decode cX10_patrons 232 = .ok (.isub, 1) := by decide +kernel
theorem dX10_patrons_233 : decode cX10_patrons 233 = .ok (.invokevirtual 378, 3) := by decide +kernel
theorem dX10_patrons_236 : decode cX10_patrons 236 = .ok (.ifCond .eq 55, 3) := by decide +kernel
theorem dX10_patrons_239 : decode cX10_patrons 239 = .ok (.aload_n 0, 1) := by decide +kernel
theorem dX10_patrons_240 : decode cX10_patrons 240 = .ok (.iload_n 1, 1) := by decide +kernel
theorem dX10_patrons_241 : decode cX10_patrons 241 = .ok (.iload 7, 2) := by decide +kernel
theorem dX10_patrons_243 : decode cX10_patrons 243 = .ok (.iload 8, 2) := by decide +kernel
theorem dX10_patrons_245 : decode cX10_patrons 245 = .ok (.iconst 1, 1) := by decide +kernel
theorem dX10_patrons_246 : decode cX10_patrons 246 = .ok (.invokevirtual 381, 3) := by decide +kernel
theorem dX10_patrons_249 : decode cX10_patrons 249 = .ok (.ifCond .eq 42, 3) := by decide +kernel
theorem dX10_patrons_252 : decode cX10_patrons 252 = .ok (.aload_n 0, 1) := by decide +kernel
theorem dX10_patrons_253 : decode cX10_patrons 253 = .ok (.iload_n 2, 1) := by decide +kernel
theorem dX10_patrons_254 : decode cX10_patrons 254 = .ok (.iload 7, 2) := by decide +kernel
theorem dX10_patrons_256 : decode cX10_patrons 256 = .ok (.iload 8, 2) := by decide +kernel
theorem dX10_patrons_258 : decode cX10_patrons 258 = .ok (.iconst 0, 1) := by decide +kernel
theorem dX10_patrons_259 : decode cX10_patrons 259 = .ok (.invokevirtual 381, 3) := by decide +kernel
theorem dX10_patrons_262 : decode cX10_patrons 262 = .ok (.ifCond .ne 6, 3) := by decide +kernel
theorem dX10_patrons_265 : decode cX10_patrons 265 = .ok (.goto 26, 3) := by decide +kernel
theorem dX10_patrons_268 : decode cX10_patrons 268 = .ok (.iload 5, 2) := by decide +kernel
theorem dX10_patrons_270 : decode cX10_patrons 270 = .ok (.ifCond .ne 14, 3) := by decide +kernel
theorem dX10_patrons_273 : decode cX10_patrons 273 = .ok (.bipush 100, 2) := by decide +kernel
theorem dX10_patrons_275 : decode cX10_patrons 275 = .ok (.iload 7, 2) := by decide +kernel
theorem dX10_patrons_277 : decode cX10_patrons 277 = .ok (.imul, 1) := by decide +kernel
theorem dX10_patrons_278 : decode cX10_patrons 278 = .ok (.iload 8, 2) := by decide +kernel
theorem dX10_patrons_280 : decode cX10_patrons 280 = .ok (.iadd, 1) := by decide +kernel
theorem dX10_patrons_281 : decode cX10_patrons 281 = .ok (.goto 5, 3) := by decide +kernel
theorem dX10_patrons_284 : decode cX10_patrons 284 = .ok (.iload 6, 2) := by decide +kernel
theorem dX10_patrons_286 : decode cX10_patrons 286 = .ok (.istore 6, 2) := by decide +kernel
theorem dX10_patrons_288 : decode cX10_patrons 288 = .ok (.iinc 5 1, 3) := by decide +kernel
theorem dX10_patrons_291 : decode cX10_patrons 291 = .ok (.iinc 8 1, 3) := by decide +kernel
theorem dX10_patrons_294 : decode cX10_patrons 294 = .ok (.goto (-88), 3) := by decide +kernel
theorem dX10_patrons_297 : decode cX10_patrons 297 = .ok (.iinc 7 1, 3) := by decide +kernel
theorem dX10_patrons_300 : decode cX10_patrons 300 = .ok (.goto (-108), 3) := by decide +kernel
theorem dX10_patrons_303 : decode cX10_patrons 303 = .ok (.iload 4, 2) := by decide +kernel
theorem dX10_patrons_305 : decode cX10_patrons 305 = .ok (.ifCond .ne 8, 3) := by decide +kernel
theorem dX10_patrons_308 : decode cX10_patrons 308 = .ok (.iload 5, 2) := by decide +kernel
theorem dX10_patrons_310 : decode cX10_patrons 310 = .ok (.goto 5, 3) := by decide +kernel
theorem dX10_patrons_313 : decode cX10_patrons 313 = .ok (.iload 6, 2) := by decide +kernel
theorem dX10_patrons_315 : decode cX10_patrons 315 = .ok (.ireturn, 1) := by decide +kernel
def fX10_patrons_115 (K101 : Nat → Int32 → Int32 → Int32 → Int32 → Int32 → zV → Option (Int32 × zV)) : Nat → Nat → Int32 → Int32 → Int32 → Int32 → Int32 → Int32 → zV → Option (Int32 × zV)
  | 0 => fun _ _ _ _ _ _ _ _ => none
  | n + 1 => fun x0 x1 x2 x3 x4 x5 x6 v =>
    zix (1 : Int32) (zlen (zrf x0 12)) <|
    if (v (zrf x0 12) ((1 : Int32)).toNatClampNeg) < x6 then
      K101 x0 x1 x2 x3 x4 (x5 + (1 : Int32)) v
    else
      zbind (fX10_mayDo x0 (x5 - (1 : Int32)) v) fun r_2 v_1 =>
      if r_2 = (0 : Int32) then
        (fX10_patrons_115 K101 n) x0 x1 x2 x3 x4 x5 (x6 + (1 : Int32)) v_1
      else
        zbind (fX10_mayDo x0 (x6 - (1 : Int32)) v_1) fun r_4 v_3 =>
        if r_4 = (0 : Int32) then
          (fX10_patrons_115 K101 n) x0 x1 x2 x3 x4 x5 (x6 + (1 : Int32)) v_3
        else
          zix x5 (zlen (zrf x0 54)) <|
          zbind (fX10_takenBy x0 (x5 - (1 : Int32)) (x6 - (1 : Int32)) x3 v_3) fun r_6 v_5 =>
          zix x6 (zlen (zrf (zrf x0 54) (x5).toNatClampNeg)) <|
          zlet (zup v_5 (zrf (zrf x0 54) (x5).toNatClampNeg) (x6).toNatClampNeg r_6) fun v_7 =>
          (fX10_patrons_115 K101 n) x0 x1 x2 x3 x4 x5 (x6 + (1 : Int32)) v_7
set_option maxRecDepth 4000 in
theorem jX10_patrons_115 (x : zCx) (G : zG) (F : zF x G cX10_patrons 9 RX10 8 239) (hr : x.2.2.2.2.2.2.2.2.1.sig.returnType = (Option.some FieldType.int)) (hk : x.2.2.2.2.2.2.2.2.1.locks = false) (r : Int32) (w : zV) (K101 : Nat → Int32 → Int32 → Int32 → Int32 → Int32 → zV → Option (Int32 × zV)) (hK101 : ∀ (x0 : Nat) (t0 : zty G x0 1 10) (x1 : Int32) (x2 : Int32) (x3 : Int32) (x4 : Int32) (x5 : Int32) (v : zV), K101 x0 x1 x2 x3 x4 x5 v = some (r, w) → zJ x G 9 (zQ x G (some (.int r)) w 0 0) 0 0 101 [(0, zr G x0), (1, .int x1), (2, .int x2), (3, .int x3), (4, .int x4), (5, .int x5)] [] v) : ∀ (n : Nat) (x0 : Nat) (t0 : zty G x0 1 10) (x1 : Int32) (x2 : Int32) (x3 : Int32) (x4 : Int32) (x5 : Int32) (x6 : Int32) (v : zV), fX10_patrons_115 K101 n x0 x1 x2 x3 x4 x5 x6 v = some (r, w) → zJ x G 9 (zQ x G (some (.int r)) w 0 0) 0 0 115 [(0, zr G x0), (1, .int x1), (2, .int x2), (3, .int x3), (4, .int x4), (5, .int x5), (6, .int x6)] [] v := by
  intro n
  induction n with
  | zero => intro x0 t0 x1 x2 x3 x4 x5 x6 v h; exact absurd h (by intro q; cases q)
  | succ n ih =>
    intro x0 t0 x1 x2 x3 x4 x5 x6 v h
    rw [fX10_patrons_115] at h
    dsimp only at h
    refine z_iload F dX10_patrons_115 6 rfl ?_
    refine z_aload_n F dX10_patrons_117 rfl 0 rfl ?_
    refine zg_10_12 F t0 wF_X10_23 dX10_patrons_118 ?_
    refine z_iconst (y := (1 : Int32)) F dX10_patrons_121 rfl ?_
    obtain ⟨hi122, h⟩ := zix_ex h
    refine z_iald F (zt_f tc_10_12 t0) dX10_patrons_122 hi122 ?_
    refine z_icmp_gt F 177 dX10_patrons_123 rfl (fun hc => ?_) (fun hc => ?_)
    · replace h := zif_t hc h
      refine z_iinc F [(5, .int (x5 + (1 : Int32))), (0, zr G x0), (1, .int x1), (2, .int x2), (3, .int x3), (4, .int x4), (6, .int x6)] dX10_patrons_177 5 rfl rfl (Nat.le_of_ble_eq_true rfl) rfl ?_
      refine z_goto F 101 dX10_patrons_180 rfl ?_
      refine z_ls [(0, zr G x0), (1, .int x1), (2, .int x2), (3, .int x3), (4, .int x4), (5, .int (x5 + (1 : Int32)))] [1, 2, 3, 4, 5, 0] rfl ?_
      exact hK101 x0 t0 x1 x2 x3 x4 (x5 + (1 : Int32)) v h
    · replace h := zif_f hc h
      refine z_aload_n F dX10_patrons_126 rfl 0 rfl ?_
      refine z_iload F dX10_patrons_127 5 rfl ?_
      refine z_iconst (y := (1 : Int32)) F dX10_patrons_129 rfl ?_
      refine z_isub F dX10_patrons_130 ?_
      obtain ⟨r_2, v_1, hq131, h⟩ := zbind_ex h
      refine z_callVi F [.int (x5 - (1 : Int32))] [] (kX10_mayDo x.2.1 G x0 t0 (x5 - (1 : Int32)) v r_2 v_1 hq131) mI_X10_mayDo (c := 10) rfl t0 wM_X10_378 mi_X10_mayDo sl_X10_mayDo dX10_patrons_131 rfl ⟨Nat.le_of_ble_eq_true rfl, Nat.le_of_ble_eq_true rfl⟩ rfl (Nat.le_of_ble_eq_true rfl) ⟨Nat.zero_le _, Nat.zero_le _⟩ ?_
      refine z_if_eq F 171 dX10_patrons_134 rfl (fun hc => ?_) (fun hc => ?_)
      · replace h := zif_t hc h
        refine z_iinc F [(6, .int (x6 + (1 : Int32))), (0, zr G x0), (1, .int x1), (2, .int x2), (3, .int x3), (4, .int x4), (5, .int x5)] dX10_patrons_171 6 rfl rfl (Nat.le_of_ble_eq_true rfl) rfl ?_
        refine z_goto F 115 dX10_patrons_174 rfl ?_
        refine z_ls [(0, zr G x0), (1, .int x1), (2, .int x2), (3, .int x3), (4, .int x4), (5, .int x5), (6, .int (x6 + (1 : Int32)))] [1, 2, 3, 4, 5, 6, 0] rfl ?_
        exact ih x0 t0 x1 x2 x3 x4 x5 (x6 + (1 : Int32)) v_1 h
      · replace h := zif_f hc h
        refine z_aload_n F dX10_patrons_137 rfl 0 rfl ?_
        refine z_iload F dX10_patrons_138 6 rfl ?_
        refine z_iconst (y := (1 : Int32)) F dX10_patrons_140 rfl ?_
        refine z_isub F dX10_patrons_141 ?_
        obtain ⟨r_4, v_3, hq142, h⟩ := zbind_ex h
        refine z_callVi F [.int (x6 - (1 : Int32))] [] (kX10_mayDo x.2.1 G x0 t0 (x6 - (1 : Int32)) v_1 r_4 v_3 hq142) mI_X10_mayDo (c := 10) rfl t0 wM_X10_378 mi_X10_mayDo sl_X10_mayDo dX10_patrons_142 rfl ⟨Nat.le_of_ble_eq_true rfl, Nat.le_of_ble_eq_true rfl⟩ rfl (Nat.le_of_ble_eq_true rfl) ⟨Nat.zero_le _, Nat.zero_le _⟩ ?_
        refine z_if_eq F 171 dX10_patrons_145 rfl (fun hc => ?_) (fun hc => ?_)
        · replace h := zif_t hc h
          refine z_iinc F [(6, .int (x6 + (1 : Int32))), (0, zr G x0), (1, .int x1), (2, .int x2), (3, .int x3), (4, .int x4), (5, .int x5)] dX10_patrons_171 6 rfl rfl (Nat.le_of_ble_eq_true rfl) rfl ?_
          refine z_goto F 115 dX10_patrons_174 rfl ?_
          refine z_ls [(0, zr G x0), (1, .int x1), (2, .int x2), (3, .int x3), (4, .int x4), (5, .int x5), (6, .int (x6 + (1 : Int32)))] [1, 2, 3, 4, 5, 6, 0] rfl ?_
          exact ih x0 t0 x1 x2 x3 x4 x5 (x6 + (1 : Int32)) v_3 h
        · replace h := zif_f hc h
          refine z_aload_n F dX10_patrons_148 rfl 0 rfl ?_
          refine zg_10_54 F t0 wF_X10_112 dX10_patrons_149 ?_
          refine z_iload F dX10_patrons_152 5 rfl ?_
          obtain ⟨hi154, h⟩ := zix_ex h
          refine z_aald3 F (zt_f tc_10_54 t0) dX10_patrons_154 hi154 ?_
          refine z_iload F dX10_patrons_155 6 rfl ?_
          refine z_aload_n F dX10_patrons_157 rfl 0 rfl ?_
          refine z_iload F dX10_patrons_158 5 rfl ?_
          refine z_iconst (y := (1 : Int32)) F dX10_patrons_160 rfl ?_
          refine z_isub F dX10_patrons_161 ?_
          refine z_iload F dX10_patrons_162 6 rfl ?_
          refine z_iconst (y := (1 : Int32)) F dX10_patrons_164 rfl ?_
          refine z_isub F dX10_patrons_165 ?_
          refine z_iload_n F dX10_patrons_166 rfl 3 rfl ?_
          obtain ⟨r_6, v_5, hq167, h⟩ := zbind_ex h
          refine z_callVi F [.int (x5 - (1 : Int32)), .int (x6 - (1 : Int32)), .int x3] [.int x6, zr G (zrf (zrf x0 54) (x5).toNatClampNeg)] (kX10_takenBy x.2.1 G x0 t0 (x5 - (1 : Int32)) (x6 - (1 : Int32)) x3 v_3 r_6 v_5 hq167) mI_X10_takenBy (c := 10) rfl t0 wM_X10_375 mi_X10_takenBy sl_X10_takenBy dX10_patrons_167 rfl ⟨Nat.le_of_ble_eq_true rfl, Nat.le_of_ble_eq_true rfl⟩ rfl (Nat.le_of_ble_eq_true rfl) ⟨Nat.zero_le _, Nat.zero_le _⟩ ?_
          obtain ⟨hi170, h⟩ := zix_ex h
          refine z_iast F (zt_a tcA_3 (zt_f tc_10_54 t0) (zin_lt hi154)) dX10_patrons_170 hi170 ?_
          obtain ⟨v_7, ev_7, h⟩ := zlet_ex h
          refine z_heap ev_7 ?_
          refine z_iinc F [(6, .int (x6 + (1 : Int32))), (0, zr G x0), (1, .int x1), (2, .int x2), (3, .int x3), (4, .int x4), (5, .int x5)] dX10_patrons_171 6 rfl rfl (Nat.le_of_ble_eq_true rfl) rfl ?_
          refine z_goto F 115 dX10_patrons_174 rfl ?_
          refine z_ls [(0, zr G x0), (1, .int x1), (2, .int x2), (3, .int x3), (4, .int x4), (5, .int x5), (6, .int (x6 + (1 : Int32)))] [1, 2, 3, 4, 5, 6, 0] rfl ?_
          exact ih x0 t0 x1 x2 x3 x4 x5 (x6 + (1 : Int32)) v_7 h

def fX10_patrons_206 (K192 : Nat → Int32 → Int32 → Int32 → Int32 → Int32 → Int32 → zV → Option (Int32 × zV)) : Nat → Nat → Int32 → Int32 → Int32 → Int32 → Int32 → Int32 → Int32 → zV → Option (Int32 × zV)
  | 0 => fun _ _ _ _ _ _ _ _ _ => none
  | n + 1 => fun x0 x1 x2 x4 x5 x6 x7 x8 v =>
    zix (1 : Int32) (zlen (zrf x0 12)) <|
    if (v (zrf x0 12) ((1 : Int32)).toNatClampNeg) < x8 then
      K192 x0 x1 x2 x4 x5 x6 (x7 + (1 : Int32)) v
    else
      zbind (fX10_mayDo x0 (x7 - (1 : Int32)) v) fun r_2 v_1 =>
      if r_2 = (0 : Int32) then
        (fX10_patrons_206 K192 n) x0 x1 x2 x4 x5 x6 x7 (x8 + (1 : Int32)) v_1
      else
        zbind (fX10_mayDo x0 (x8 - (1 : Int32)) v_1) fun r_4 v_3 =>
        if r_4 = (0 : Int32) then
          (fX10_patrons_206 K192 n) x0 x1 x2 x4 x5 x6 x7 (x8 + (1 : Int32)) v_3
        else
          zbind (fX10_isQuiet x0 x1 x7 x8 (1 : Int32) v_3) fun r_6 v_5 =>
          if r_6 = (0 : Int32) then
            (fX10_patrons_206 K192 n) x0 x1 x2 x4 x5 x6 x7 (x8 + (1 : Int32)) v_5
          else
            zbind (fX10_isQuiet x0 x2 x7 x8 (0 : Int32) v_5) fun r_8 v_7 =>
            if r_8 = (0 : Int32) then
              (fX10_patrons_206 K192 n) x0 x1 x2 x4 x5 x6 x7 (x8 + (1 : Int32)) v_7
            else
              if x5 = (0 : Int32) then
                (fX10_patrons_206 K192 n) x0 x1 x2 x4 (x5 + (1 : Int32)) (((100 : Int32) * x7) + x8) x7 (x8 + (1 : Int32)) v_7
              else
                (fX10_patrons_206 K192 n) x0 x1 x2 x4 (x5 + (1 : Int32)) x6 x7 (x8 + (1 : Int32)) v_7
set_option maxRecDepth 4000 in
theorem jX10_patrons_206 (x : zCx) (G : zG) (F : zF x G cX10_patrons 9 RX10 8 239) (hr : x.2.2.2.2.2.2.2.2.1.sig.returnType = (Option.some FieldType.int)) (hk : x.2.2.2.2.2.2.2.2.1.locks = false) (r : Int32) (w : zV) (K192 : Nat → Int32 → Int32 → Int32 → Int32 → Int32 → Int32 → zV → Option (Int32 × zV)) (hK192 : ∀ (x0 : Nat) (t0 : zty G x0 1 10) (x1 : Int32) (x2 : Int32) (x4 : Int32) (x5 : Int32) (x6 : Int32) (x7 : Int32) (v : zV), K192 x0 x1 x2 x4 x5 x6 x7 v = some (r, w) → zJ x G 9 (zQ x G (some (.int r)) w 0 0) 0 0 192 [(0, zr G x0), (1, .int x1), (2, .int x2), (4, .int x4), (5, .int x5), (6, .int x6), (7, .int x7)] [] v) : ∀ (n : Nat) (x0 : Nat) (t0 : zty G x0 1 10) (x1 : Int32) (x2 : Int32) (x4 : Int32) (x5 : Int32) (x6 : Int32) (x7 : Int32) (x8 : Int32) (v : zV), fX10_patrons_206 K192 n x0 x1 x2 x4 x5 x6 x7 x8 v = some (r, w) → zJ x G 9 (zQ x G (some (.int r)) w 0 0) 0 0 206 [(0, zr G x0), (1, .int x1), (2, .int x2), (4, .int x4), (5, .int x5), (6, .int x6), (7, .int x7), (8, .int x8)] [] v := by
  intro n
  induction n with
  | zero => intro x0 t0 x1 x2 x4 x5 x6 x7 x8 v h; exact absurd h (by intro q; cases q)
  | succ n ih =>
    intro x0 t0 x1 x2 x4 x5 x6 x7 x8 v h
    rw [fX10_patrons_206] at h
    dsimp only at h
    refine z_iload F dX10_patrons_206 7 rfl ?_
    refine z_aload_n F dX10_patrons_208 rfl 0 rfl ?_
    refine zg_10_12 F t0 wF_X10_23 dX10_patrons_209 ?_
    refine z_iconst (y := (1 : Int32)) F dX10_patrons_212 rfl ?_
    obtain ⟨hi213, h⟩ := zix_ex h
    refine z_iald F (zt_f tc_10_12 t0) dX10_patrons_213 hi213 ?_
    refine z_icmp_gt F 297 dX10_patrons_214 rfl (fun hc => ?_) (fun hc => ?_)
    · replace h := zif_t hc h
      refine z_iinc F [(7, .int (x7 + (1 : Int32))), (0, zr G x0), (1, .int x1), (2, .int x2), (4, .int x4), (5, .int x5), (6, .int x6), (8, .int x8)] dX10_patrons_297 6 rfl rfl (Nat.le_of_ble_eq_true rfl) rfl ?_
      refine z_goto F 192 dX10_patrons_300 rfl ?_
      refine z_ls [(0, zr G x0), (1, .int x1), (2, .int x2), (4, .int x4), (5, .int x5), (6, .int x6), (7, .int (x7 + (1 : Int32)))] [1, 2, 3, 4, 5, 6, 0] rfl ?_
      exact hK192 x0 t0 x1 x2 x4 x5 x6 (x7 + (1 : Int32)) v h
    · replace h := zif_f hc h
      refine z_aload_n F dX10_patrons_217 rfl 0 rfl ?_
      refine z_iload F dX10_patrons_218 6 rfl ?_
      refine z_iconst (y := (1 : Int32)) F dX10_patrons_220 rfl ?_
      refine z_isub F dX10_patrons_221 ?_
      obtain ⟨r_2, v_1, hq222, h⟩ := zbind_ex h
      refine z_callVi F [.int (x7 - (1 : Int32))] [] (kX10_mayDo x.2.1 G x0 t0 (x7 - (1 : Int32)) v r_2 v_1 hq222) mI_X10_mayDo (c := 10) rfl t0 wM_X10_378 mi_X10_mayDo sl_X10_mayDo dX10_patrons_222 rfl ⟨Nat.le_of_ble_eq_true rfl, Nat.le_of_ble_eq_true rfl⟩ rfl (Nat.le_of_ble_eq_true rfl) ⟨Nat.zero_le _, Nat.zero_le _⟩ ?_
      refine z_if_eq F 291 dX10_patrons_225 rfl (fun hc => ?_) (fun hc => ?_)
      · replace h := zif_t hc h
        refine z_iinc F [(8, .int (x8 + (1 : Int32))), (0, zr G x0), (1, .int x1), (2, .int x2), (4, .int x4), (5, .int x5), (6, .int x6), (7, .int x7)] dX10_patrons_291 7 rfl rfl (Nat.le_of_ble_eq_true rfl) rfl ?_
        refine z_goto F 206 dX10_patrons_294 rfl ?_
        refine z_ls [(0, zr G x0), (1, .int x1), (2, .int x2), (4, .int x4), (5, .int x5), (6, .int x6), (7, .int x7), (8, .int (x8 + (1 : Int32)))] [1, 2, 3, 4, 5, 6, 7, 0] rfl ?_
        exact ih x0 t0 x1 x2 x4 x5 x6 x7 (x8 + (1 : Int32)) v_1 h
      · replace h := zif_f hc h
        refine z_aload_n F dX10_patrons_228 rfl 0 rfl ?_
        refine z_iload F dX10_patrons_229 7 rfl ?_
        refine z_iconst (y := (1 : Int32)) F dX10_patrons_231 rfl ?_
        refine z_isub F dX10_patrons_232 ?_
        obtain ⟨r_4, v_3, hq233, h⟩ := zbind_ex h
        refine z_callVi F [.int (x8 - (1 : Int32))] [] (kX10_mayDo x.2.1 G x0 t0 (x8 - (1 : Int32)) v_1 r_4 v_3 hq233) mI_X10_mayDo (c := 10) rfl t0 wM_X10_378 mi_X10_mayDo sl_X10_mayDo dX10_patrons_233 rfl ⟨Nat.le_of_ble_eq_true rfl, Nat.le_of_ble_eq_true rfl⟩ rfl (Nat.le_of_ble_eq_true rfl) ⟨Nat.zero_le _, Nat.zero_le _⟩ ?_
        refine z_if_eq F 291 dX10_patrons_236 rfl (fun hc => ?_) (fun hc => ?_)
        · replace h := zif_t hc h
          refine z_iinc F [(8, .int (x8 + (1 : Int32))), (0, zr G x0), (1, .int x1), (2, .int x2), (4, .int x4), (5, .int x5), (6, .int x6), (7, .int x7)] dX10_patrons_291 7 rfl rfl (Nat.le_of_ble_eq_true rfl) rfl ?_
          refine z_goto F 206 dX10_patrons_294 rfl ?_
          refine z_ls [(0, zr G x0), (1, .int x1), (2, .int x2), (4, .int x4), (5, .int x5), (6, .int x6), (7, .int x7), (8, .int (x8 + (1 : Int32)))] [1, 2, 3, 4, 5, 6, 7, 0] rfl ?_
          exact ih x0 t0 x1 x2 x4 x5 x6 x7 (x8 + (1 : Int32)) v_3 h
        · replace h := zif_f hc h
          refine z_aload_n F dX10_patrons_239 rfl 0 rfl ?_
          refine z_iload_n F dX10_patrons_240 rfl 1 rfl ?_
          refine z_iload F dX10_patrons_241 6 rfl ?_
          refine z_iload F dX10_patrons_243 7 rfl ?_
          refine z_iconst (y := (1 : Int32)) F dX10_patrons_245 rfl ?_
          obtain ⟨r_6, v_5, hq246, h⟩ := zbind_ex h
          refine z_callVi F [.int x1, .int x7, .int x8, .int (1 : Int32)] [] (kX10_isQuiet x.2.1 G x0 t0 x1 x7 x8 (1 : Int32) v_3 r_6 v_5 hq246) mI_X10_isQuiet (c := 10) rfl t0 wM_X10_381 mi_X10_isQuiet sl_X10_isQuiet dX10_patrons_246 rfl ⟨Nat.le_of_ble_eq_true rfl, Nat.le_of_ble_eq_true rfl⟩ rfl (Nat.le_of_ble_eq_true rfl) ⟨Nat.zero_le _, Nat.zero_le _⟩ ?_
          refine z_if_eq F 291 dX10_patrons_249 rfl (fun hc => ?_) (fun hc => ?_)
          · replace h := zif_t hc h
            refine z_iinc F [(8, .int (x8 + (1 : Int32))), (0, zr G x0), (1, .int x1), (2, .int x2), (4, .int x4), (5, .int x5), (6, .int x6), (7, .int x7)] dX10_patrons_291 7 rfl rfl (Nat.le_of_ble_eq_true rfl) rfl ?_
            refine z_goto F 206 dX10_patrons_294 rfl ?_
            refine z_ls [(0, zr G x0), (1, .int x1), (2, .int x2), (4, .int x4), (5, .int x5), (6, .int x6), (7, .int x7), (8, .int (x8 + (1 : Int32)))] [1, 2, 3, 4, 5, 6, 7, 0] rfl ?_
            exact ih x0 t0 x1 x2 x4 x5 x6 x7 (x8 + (1 : Int32)) v_5 h
          · replace h := zif_f hc h
            refine z_aload_n F dX10_patrons_252 rfl 0 rfl ?_
            refine z_iload_n F dX10_patrons_253 rfl 2 rfl ?_
            refine z_iload F dX10_patrons_254 6 rfl ?_
            refine z_iload F dX10_patrons_256 7 rfl ?_
            refine z_iconst (y := (0 : Int32)) F dX10_patrons_258 rfl ?_
            obtain ⟨r_8, v_7, hq259, h⟩ := zbind_ex h
            refine z_callVi F [.int x2, .int x7, .int x8, .int (0 : Int32)] [] (kX10_isQuiet x.2.1 G x0 t0 x2 x7 x8 (0 : Int32) v_5 r_8 v_7 hq259) mI_X10_isQuiet (c := 10) rfl t0 wM_X10_381 mi_X10_isQuiet sl_X10_isQuiet dX10_patrons_259 rfl ⟨Nat.le_of_ble_eq_true rfl, Nat.le_of_ble_eq_true rfl⟩ rfl (Nat.le_of_ble_eq_true rfl) ⟨Nat.zero_le _, Nat.zero_le _⟩ ?_
            refine z_if_ne F 268 dX10_patrons_262 rfl (fun hc => ?_) (fun hc => ?_)
            · replace h := zif_f hc h
              refine z_iload F dX10_patrons_268 4 rfl ?_
              refine z_if_ne F 284 dX10_patrons_270 rfl (fun hc => ?_) (fun hc => ?_)
              · replace h := zif_f hc h
                refine z_iload F dX10_patrons_284 5 rfl ?_
                refine z_istore (n := 0) F [(6, .int x6), (0, zr G x0), (1, .int x1), (2, .int x2), (4, .int x4), (5, .int x5), (7, .int x7), (8, .int x8)] dX10_patrons_286 (Nat.le_of_ble_eq_true rfl) rfl ?_
                refine z_iinc F [(5, .int (x5 + (1 : Int32))), (6, .int x6), (0, zr G x0), (1, .int x1), (2, .int x2), (4, .int x4), (7, .int x7), (8, .int x8)] dX10_patrons_288 5 rfl rfl (Nat.le_of_ble_eq_true rfl) rfl ?_
                refine z_iinc F [(8, .int (x8 + (1 : Int32))), (5, .int (x5 + (1 : Int32))), (6, .int x6), (0, zr G x0), (1, .int x1), (2, .int x2), (4, .int x4), (7, .int x7)] dX10_patrons_291 7 rfl rfl (Nat.le_of_ble_eq_true rfl) rfl ?_
                refine z_goto F 206 dX10_patrons_294 rfl ?_
                refine z_ls [(0, zr G x0), (1, .int x1), (2, .int x2), (4, .int x4), (5, .int (x5 + (1 : Int32))), (6, .int x6), (7, .int x7), (8, .int (x8 + (1 : Int32)))] [3, 4, 5, 6, 1, 2, 7, 0] rfl ?_
                exact ih x0 t0 x1 x2 x4 (x5 + (1 : Int32)) x6 x7 (x8 + (1 : Int32)) v_7 h
              · replace h := zif_t hc h
                refine z_bipush (y := (100 : Int32)) F dX10_patrons_273 rfl ?_
                refine z_iload F dX10_patrons_275 6 rfl ?_
                refine z_imul F dX10_patrons_277 ?_
                refine z_iload F dX10_patrons_278 7 rfl ?_
                refine z_iadd F dX10_patrons_280 ?_
                refine z_goto F 286 dX10_patrons_281 rfl ?_
                refine z_istore (n := 0) F [(6, .int (((100 : Int32) * x7) + x8)), (0, zr G x0), (1, .int x1), (2, .int x2), (4, .int x4), (5, .int x5), (7, .int x7), (8, .int x8)] dX10_patrons_286 (Nat.le_of_ble_eq_true rfl) rfl ?_
                refine z_iinc F [(5, .int (x5 + (1 : Int32))), (6, .int (((100 : Int32) * x7) + x8)), (0, zr G x0), (1, .int x1), (2, .int x2), (4, .int x4), (7, .int x7), (8, .int x8)] dX10_patrons_288 5 rfl rfl (Nat.le_of_ble_eq_true rfl) rfl ?_
                refine z_iinc F [(8, .int (x8 + (1 : Int32))), (5, .int (x5 + (1 : Int32))), (6, .int (((100 : Int32) * x7) + x8)), (0, zr G x0), (1, .int x1), (2, .int x2), (4, .int x4), (7, .int x7)] dX10_patrons_291 7 rfl rfl (Nat.le_of_ble_eq_true rfl) rfl ?_
                refine z_goto F 206 dX10_patrons_294 rfl ?_
                refine z_ls [(0, zr G x0), (1, .int x1), (2, .int x2), (4, .int x4), (5, .int (x5 + (1 : Int32))), (6, .int (((100 : Int32) * x7) + x8)), (7, .int x7), (8, .int (x8 + (1 : Int32)))] [3, 4, 5, 6, 1, 2, 7, 0] rfl ?_
                exact ih x0 t0 x1 x2 x4 (x5 + (1 : Int32)) (((100 : Int32) * x7) + x8) x7 (x8 + (1 : Int32)) v_7 h
            · replace h := zif_t hc h
              refine z_goto F 291 dX10_patrons_265 rfl ?_
              refine z_iinc F [(8, .int (x8 + (1 : Int32))), (0, zr G x0), (1, .int x1), (2, .int x2), (4, .int x4), (5, .int x5), (6, .int x6), (7, .int x7)] dX10_patrons_291 7 rfl rfl (Nat.le_of_ble_eq_true rfl) rfl ?_
              refine z_goto F 206 dX10_patrons_294 rfl ?_
              refine z_ls [(0, zr G x0), (1, .int x1), (2, .int x2), (4, .int x4), (5, .int x5), (6, .int x6), (7, .int x7), (8, .int (x8 + (1 : Int32)))] [1, 2, 3, 4, 5, 6, 7, 0] rfl ?_
              exact ih x0 t0 x1 x2 x4 x5 x6 x7 (x8 + (1 : Int32)) v_7 h

def fX10_patrons_192  : Nat → Nat → Int32 → Int32 → Int32 → Int32 → Int32 → Int32 → zV → Option (Int32 × zV)
  | 0 => fun _ _ _ _ _ _ _ _ => none
  | n + 1 => fun x0 x1 x2 x4 x5 x6 x7 v =>
    zix (1 : Int32) (zlen (zrf x0 12)) <|
    if (v (zrf x0 12) ((1 : Int32)).toNatClampNeg) < x7 then
      if x4 = (0 : Int32) then
        some (x5, v)
      else
        some (x6, v)
    else
      fX10_patrons_206 (fX10_patrons_192 n) zFU x0 x1 x2 x4 x5 x6 x7 (0 : Int32) v
set_option maxRecDepth 4000 in
theorem jX10_patrons_192 (x : zCx) (G : zG) (F : zF x G cX10_patrons 9 RX10 8 239) (hr : x.2.2.2.2.2.2.2.2.1.sig.returnType = (Option.some FieldType.int)) (hk : x.2.2.2.2.2.2.2.2.1.locks = false) (r : Int32) (w : zV)  : ∀ (n : Nat) (x0 : Nat) (t0 : zty G x0 1 10) (x1 : Int32) (x2 : Int32) (x4 : Int32) (x5 : Int32) (x6 : Int32) (x7 : Int32) (v : zV), fX10_patrons_192 n x0 x1 x2 x4 x5 x6 x7 v = some (r, w) → zJ x G 9 (zQ x G (some (.int r)) w 0 0) 0 0 192 [(0, zr G x0), (1, .int x1), (2, .int x2), (4, .int x4), (5, .int x5), (6, .int x6), (7, .int x7)] [] v := by
  intro n
  induction n with
  | zero => intro x0 t0 x1 x2 x4 x5 x6 x7 v h; exact absurd h (by intro q; cases q)
  | succ n ih =>
    intro x0 t0 x1 x2 x4 x5 x6 x7 v h
    rw [fX10_patrons_192] at h
    dsimp only at h
    refine z_iload F dX10_patrons_192 6 rfl ?_
    refine z_aload_n F dX10_patrons_194 rfl 0 rfl ?_
    refine zg_10_12 F t0 wF_X10_23 dX10_patrons_195 ?_
    refine z_iconst (y := (1 : Int32)) F dX10_patrons_198 rfl ?_
    obtain ⟨hi199, h⟩ := zix_ex h
    refine z_iald F (zt_f tc_10_12 t0) dX10_patrons_199 hi199 ?_
    refine z_icmp_gt F 303 dX10_patrons_200 rfl (fun hc => ?_) (fun hc => ?_)
    · replace h := zif_t hc h
      refine z_iload F dX10_patrons_303 3 rfl ?_
      refine z_if_ne F 313 dX10_patrons_305 rfl (fun hc => ?_) (fun hc => ?_)
      · replace h := zif_f hc h
        refine z_iload F dX10_patrons_313 5 rfl ?_
        cases h
        exact z_reti F hr hk dX10_patrons_315
      · replace h := zif_t hc h
        refine z_iload F dX10_patrons_308 4 rfl ?_
        refine z_goto F 315 dX10_patrons_310 rfl ?_
        cases h
        exact z_reti F hr hk dX10_patrons_315
    · replace h := zif_f hc h
      refine z_iconst (y := (0 : Int32)) F dX10_patrons_203 rfl ?_
      refine z_istore (n := 0) F [(8, .int (0 : Int32)), (0, zr G x0), (1, .int x1), (2, .int x2), (4, .int x4), (5, .int x5), (6, .int x6), (7, .int x7)] dX10_patrons_204 (Nat.le_of_ble_eq_true rfl) rfl ?_
      refine z_ls [(0, zr G x0), (1, .int x1), (2, .int x2), (4, .int x4), (5, .int x5), (6, .int x6), (7, .int x7), (8, .int (0 : Int32))] [1, 2, 3, 4, 5, 6, 7, 0] rfl ?_
      exact jX10_patrons_206 x G F hr hk r w (fX10_patrons_192 n) ih zFU x0 t0 x1 x2 x4 x5 x6 x7 (0 : Int32) v h

def fX10_patrons_101  : Nat → Nat → Int32 → Int32 → Int32 → Int32 → Int32 → zV → Option (Int32 × zV)
  | 0 => fun _ _ _ _ _ _ _ => none
  | n + 1 => fun x0 x1 x2 x3 x4 x5 v =>
    zix (1 : Int32) (zlen (zrf x0 12)) <|
    if (v (zrf x0 12) ((1 : Int32)).toNatClampNeg) < x5 then
      fX10_patrons_192  zFU x0 x1 x2 x4 (0 : Int32) (-1 : Int32) (0 : Int32) v
    else
      fX10_patrons_115 (fX10_patrons_101 n) zFU x0 x1 x2 x3 x4 x5 (0 : Int32) v
set_option maxRecDepth 4000 in
theorem jX10_patrons_101 (x : zCx) (G : zG) (F : zF x G cX10_patrons 9 RX10 8 239) (hr : x.2.2.2.2.2.2.2.2.1.sig.returnType = (Option.some FieldType.int)) (hk : x.2.2.2.2.2.2.2.2.1.locks = false) (r : Int32) (w : zV)  : ∀ (n : Nat) (x0 : Nat) (t0 : zty G x0 1 10) (x1 : Int32) (x2 : Int32) (x3 : Int32) (x4 : Int32) (x5 : Int32) (v : zV), fX10_patrons_101 n x0 x1 x2 x3 x4 x5 v = some (r, w) → zJ x G 9 (zQ x G (some (.int r)) w 0 0) 0 0 101 [(0, zr G x0), (1, .int x1), (2, .int x2), (3, .int x3), (4, .int x4), (5, .int x5)] [] v := by
  intro n
  induction n with
  | zero => intro x0 t0 x1 x2 x3 x4 x5 v h; exact absurd h (by intro q; cases q)
  | succ n ih =>
    intro x0 t0 x1 x2 x3 x4 x5 v h
    rw [fX10_patrons_101] at h
    dsimp only at h
    refine z_iload F dX10_patrons_101 5 rfl ?_
    refine z_aload_n F dX10_patrons_103 rfl 0 rfl ?_
    refine zg_10_12 F t0 wF_X10_23 dX10_patrons_104 ?_
    refine z_iconst (y := (1 : Int32)) F dX10_patrons_107 rfl ?_
    obtain ⟨hi108, h⟩ := zix_ex h
    refine z_iald F (zt_f tc_10_12 t0) dX10_patrons_108 hi108 ?_
    refine z_icmp_gt F 183 dX10_patrons_109 rfl (fun hc => ?_) (fun hc => ?_)
    · replace h := zif_t hc h
      refine z_iconst (y := (0 : Int32)) F dX10_patrons_183 rfl ?_
      refine z_istore (n := 0) F [(5, .int (0 : Int32)), (0, zr G x0), (1, .int x1), (2, .int x2), (3, .int x3), (4, .int x4)] dX10_patrons_184 (Nat.le_of_ble_eq_true rfl) rfl ?_
      refine z_iconst (y := (-1 : Int32)) F dX10_patrons_186 rfl ?_
      refine z_istore (n := 0) F [(6, .int (-1 : Int32)), (5, .int (0 : Int32)), (0, zr G x0), (1, .int x1), (2, .int x2), (3, .int x3), (4, .int x4)] dX10_patrons_187 (Nat.le_of_ble_eq_true rfl) rfl ?_
      refine z_iconst (y := (0 : Int32)) F dX10_patrons_189 rfl ?_
      refine z_istore (n := 0) F [(7, .int (0 : Int32)), (6, .int (-1 : Int32)), (5, .int (0 : Int32)), (0, zr G x0), (1, .int x1), (2, .int x2), (3, .int x3), (4, .int x4)] dX10_patrons_190 (Nat.le_of_ble_eq_true rfl) rfl ?_
      refine z_ls [(0, zr G x0), (1, .int x1), (2, .int x2), (4, .int x4), (5, .int (0 : Int32)), (6, .int (-1 : Int32)), (7, .int (0 : Int32))] [3, 4, 5, 7, 2, 1, 0] rfl ?_
      exact jX10_patrons_192 x G F hr hk r w   zFU x0 t0 x1 x2 x4 (0 : Int32) (-1 : Int32) (0 : Int32) v h
    · replace h := zif_f hc h
      refine z_iconst (y := (0 : Int32)) F dX10_patrons_112 rfl ?_
      refine z_istore (n := 0) F [(6, .int (0 : Int32)), (0, zr G x0), (1, .int x1), (2, .int x2), (3, .int x3), (4, .int x4), (5, .int x5)] dX10_patrons_113 (Nat.le_of_ble_eq_true rfl) rfl ?_
      refine z_ls [(0, zr G x0), (1, .int x1), (2, .int x2), (3, .int x3), (4, .int x4), (5, .int x5), (6, .int (0 : Int32))] [1, 2, 3, 4, 5, 6, 0] rfl ?_
      exact jX10_patrons_115 x G F hr hk r w (fX10_patrons_101 n) ih zFU x0 t0 x1 x2 x3 x4 x5 (0 : Int32) v h

def fX10_patrons_27  (x0 : Nat) (x1 : Int32) (x2 : Int32) (x3 : Int32) (x4 : Int32) (s0 : Nat) (s1 : Int32) (v : zV) : Option (Int32 × zV) :=
  zbind (fX10_bad s0 s1 (1 : Int32) (0 : Int32) v) fun r_2 v_1 =>
  if r_2 = (0 : Int32) then
    if x1 = x2 then
      zbind (fX10_bad x0 (1 : Int32) (2 : Int32) (1 : Int32) v_1) fun r_4 v_3 =>
      if r_4 = (0 : Int32) then
        fX10_patrons_101  zFU x0 x1 x2 x3 x4 (0 : Int32) v_3
      else
        some ((0 : Int32), v_3)
    else
      zix ((0 : Int32) + x1) (zlen (zrf x0 35)) <|
      if (v_1 (zrf x0 35) ((0 : Int32) + x1).toNatClampNeg) = (0 : Int32) then
        zix ((0 : Int32) + x2) (zlen (zrf x0 35)) <|
        if (v_1 (zrf x0 35) ((0 : Int32) + x2).toNatClampNeg) = (0 : Int32) then
          zbind (fX10_in x3 (1 : Int32) (99 : Int32) v_1) fun r_10 v_9 =>
          if r_10 = (0 : Int32) then
            zbind (fX10_bad x0 (1 : Int32) (2 : Int32) (1 : Int32) v_9) fun r_12 v_11 =>
            if r_12 = (0 : Int32) then
              fX10_patrons_101  zFU x0 x1 x2 x3 x4 (0 : Int32) v_11
            else
              some ((0 : Int32), v_11)
          else
            zbind (fX10_in x4 (0 : Int32) (1 : Int32) v_9) fun r_14 v_13 =>
            if r_14 = (0 : Int32) then
              zbind (fX10_bad x0 (1 : Int32) (2 : Int32) (1 : Int32) v_13) fun r_18 v_17 =>
              if r_18 = (0 : Int32) then
                fX10_patrons_101  zFU x0 x1 x2 x3 x4 (0 : Int32) v_17
              else
                some ((0 : Int32), v_17)
            else
              zbind (fX10_bad x0 (0 : Int32) (2 : Int32) (1 : Int32) v_13) fun r_16 v_15 =>
              if r_16 = (0 : Int32) then
                fX10_patrons_101  zFU x0 x1 x2 x3 x4 (0 : Int32) v_15
              else
                some ((0 : Int32), v_15)
        else
          zbind (fX10_bad x0 (1 : Int32) (2 : Int32) (1 : Int32) v_1) fun r_8 v_7 =>
          if r_8 = (0 : Int32) then
            fX10_patrons_101  zFU x0 x1 x2 x3 x4 (0 : Int32) v_7
          else
            some ((0 : Int32), v_7)
      else
        zbind (fX10_bad x0 (1 : Int32) (2 : Int32) (1 : Int32) v_1) fun r_6 v_5 =>
        if r_6 = (0 : Int32) then
          fX10_patrons_101  zFU x0 x1 x2 x3 x4 (0 : Int32) v_5
        else
          some ((0 : Int32), v_5)
  else
    some ((0 : Int32), v_1)
set_option maxRecDepth 4000 in
theorem jX10_patrons_27 (x : zCx) (G : zG) (F : zF x G cX10_patrons 9 RX10 8 239) (hr : x.2.2.2.2.2.2.2.2.1.sig.returnType = (Option.some FieldType.int)) (hk : x.2.2.2.2.2.2.2.2.1.locks = false) (r : Int32) (w : zV)  : ∀ (x0 : Nat) (t0 : zty G x0 1 10) (x1 : Int32) (x2 : Int32) (x3 : Int32) (x4 : Int32) (s0 : Nat) (ts0 : zty G s0 1 10) (s1 : Int32) (v : zV), fX10_patrons_27 x0 x1 x2 x3 x4 s0 s1 v = some (r, w) → zJ x G 9 (zQ x G (some (.int r)) w 0 0) 0 0 27 [(0, zr G x0), (1, .int x1), (2, .int x2), (3, .int x3), (4, .int x4)] [.int s1, zr G s0] v := by
  intro x0 t0 x1 x2 x3 x4 s0 ts0 s1 v h
  unfold fX10_patrons_27 at h
  refine z_iconst (y := (1 : Int32)) F dX10_patrons_27 rfl ?_
  refine z_iconst (y := (0 : Int32)) F dX10_patrons_28 rfl ?_
  obtain ⟨r_2, v_1, hq29, h⟩ := zbind_ex h
  refine z_callVi F [.int s1, .int (1 : Int32), .int (0 : Int32)] [] (kX10_bad x.2.1 G s0 ts0 s1 (1 : Int32) (0 : Int32) v r_2 v_1 hq29) mI_X10_bad (c := 10) rfl ts0 wM_X10_220 mi_X10_bad sl_X10_bad dX10_patrons_29 rfl ⟨Nat.le_of_ble_eq_true rfl, Nat.le_of_ble_eq_true rfl⟩ rfl (Nat.le_of_ble_eq_true rfl) ⟨Nat.zero_le _, Nat.zero_le _⟩ ?_
  refine z_if_ne F 96 dX10_patrons_32 rfl (fun hc => ?_) (fun hc => ?_)
  · replace h := zif_f hc h
    refine z_iconst (y := (0 : Int32)) F dX10_patrons_96 rfl ?_
    cases h
    exact z_reti F hr hk dX10_patrons_97
  · replace h := zif_t hc h
    refine z_aload_n F dX10_patrons_35 rfl 0 rfl ?_
    refine z_iload_n F dX10_patrons_36 rfl 1 rfl ?_
    refine z_iload_n F dX10_patrons_37 rfl 2 rfl ?_
    refine z_icmp_eq F 83 dX10_patrons_38 rfl (fun hc => ?_) (fun hc => ?_)
    · replace h := zif_t hc h
      refine z_iconst (y := (1 : Int32)) F dX10_patrons_83 rfl ?_
      refine z_goto F 88 dX10_patrons_84 rfl ?_
      refine z_iconst (y := (2 : Int32)) F dX10_patrons_88 rfl ?_
      refine z_iconst (y := (1 : Int32)) F dX10_patrons_89 rfl ?_
      obtain ⟨r_4, v_3, hq90, h⟩ := zbind_ex h
      refine z_callVi F [.int (1 : Int32), .int (2 : Int32), .int (1 : Int32)] [] (kX10_bad x.2.1 G x0 t0 (1 : Int32) (2 : Int32) (1 : Int32) v_1 r_4 v_3 hq90) mI_X10_bad (c := 10) rfl t0 wM_X10_220 mi_X10_bad sl_X10_bad dX10_patrons_90 rfl ⟨Nat.le_of_ble_eq_true rfl, Nat.le_of_ble_eq_true rfl⟩ rfl (Nat.le_of_ble_eq_true rfl) ⟨Nat.zero_le _, Nat.zero_le _⟩ ?_
      refine z_if_eq F 98 dX10_patrons_93 rfl (fun hc => ?_) (fun hc => ?_)
      · replace h := zif_t hc h
        refine z_iconst (y := (0 : Int32)) F dX10_patrons_98 rfl ?_
        refine z_istore (n := 0) F [(5, .int (0 : Int32)), (0, zr G x0), (1, .int x1), (2, .int x2), (3, .int x3), (4, .int x4)] dX10_patrons_99 (Nat.le_of_ble_eq_true rfl) rfl ?_
        refine z_ls [(0, zr G x0), (1, .int x1), (2, .int x2), (3, .int x3), (4, .int x4), (5, .int (0 : Int32))] [1, 2, 3, 4, 5, 0] rfl ?_
        exact jX10_patrons_101 x G F hr hk r w   zFU x0 t0 x1 x2 x3 x4 (0 : Int32) v_3 h
      · replace h := zif_f hc h
        refine z_iconst (y := (0 : Int32)) F dX10_patrons_96 rfl ?_
        cases h
        exact z_reti F hr hk dX10_patrons_97
    · replace h := zif_f hc h
      refine z_aload_n F dX10_patrons_41 rfl 0 rfl ?_
      refine zg_10_35 F t0 wF_X10_85 dX10_patrons_42 ?_
      refine z_iconst (y := (0 : Int32)) F dX10_patrons_45 rfl ?_
      refine z_iload_n F dX10_patrons_46 rfl 1 rfl ?_
      refine z_iadd F dX10_patrons_47 ?_
      obtain ⟨hi48, h⟩ := zix_ex h
      refine z_iald F (zt_f tc_10_35 t0) dX10_patrons_48 hi48 ?_
      refine z_if_ne F 83 dX10_patrons_49 rfl (fun hc => ?_) (fun hc => ?_)
      · replace h := zif_f hc h
        refine z_iconst (y := (1 : Int32)) F dX10_patrons_83 rfl ?_
        refine z_goto F 88 dX10_patrons_84 rfl ?_
        refine z_iconst (y := (2 : Int32)) F dX10_patrons_88 rfl ?_
        refine z_iconst (y := (1 : Int32)) F dX10_patrons_89 rfl ?_
        obtain ⟨r_6, v_5, hq90, h⟩ := zbind_ex h
        refine z_callVi F [.int (1 : Int32), .int (2 : Int32), .int (1 : Int32)] [] (kX10_bad x.2.1 G x0 t0 (1 : Int32) (2 : Int32) (1 : Int32) v_1 r_6 v_5 hq90) mI_X10_bad (c := 10) rfl t0 wM_X10_220 mi_X10_bad sl_X10_bad dX10_patrons_90 rfl ⟨Nat.le_of_ble_eq_true rfl, Nat.le_of_ble_eq_true rfl⟩ rfl (Nat.le_of_ble_eq_true rfl) ⟨Nat.zero_le _, Nat.zero_le _⟩ ?_
        refine z_if_eq F 98 dX10_patrons_93 rfl (fun hc => ?_) (fun hc => ?_)
        · replace h := zif_t hc h
          refine z_iconst (y := (0 : Int32)) F dX10_patrons_98 rfl ?_
          refine z_istore (n := 0) F [(5, .int (0 : Int32)), (0, zr G x0), (1, .int x1), (2, .int x2), (3, .int x3), (4, .int x4)] dX10_patrons_99 (Nat.le_of_ble_eq_true rfl) rfl ?_
          refine z_ls [(0, zr G x0), (1, .int x1), (2, .int x2), (3, .int x3), (4, .int x4), (5, .int (0 : Int32))] [1, 2, 3, 4, 5, 0] rfl ?_
          exact jX10_patrons_101 x G F hr hk r w   zFU x0 t0 x1 x2 x3 x4 (0 : Int32) v_5 h
        · replace h := zif_f hc h
          refine z_iconst (y := (0 : Int32)) F dX10_patrons_96 rfl ?_
          cases h
          exact z_reti F hr hk dX10_patrons_97
      · replace h := zif_t hc h
        refine z_aload_n F dX10_patrons_52 rfl 0 rfl ?_
        refine zg_10_35 F t0 wF_X10_85 dX10_patrons_53 ?_
        refine z_iconst (y := (0 : Int32)) F dX10_patrons_56 rfl ?_
        refine z_iload_n F dX10_patrons_57 rfl 2 rfl ?_
        refine z_iadd F dX10_patrons_58 ?_
        obtain ⟨hi59, h⟩ := zix_ex h
        refine z_iald F (zt_f tc_10_35 t0) dX10_patrons_59 hi59 ?_
        refine z_if_ne F 83 dX10_patrons_60 rfl (fun hc => ?_) (fun hc => ?_)
        · replace h := zif_f hc h
          refine z_iconst (y := (1 : Int32)) F dX10_patrons_83 rfl ?_
          refine z_goto F 88 dX10_patrons_84 rfl ?_
          refine z_iconst (y := (2 : Int32)) F dX10_patrons_88 rfl ?_
          refine z_iconst (y := (1 : Int32)) F dX10_patrons_89 rfl ?_
          obtain ⟨r_8, v_7, hq90, h⟩ := zbind_ex h
          refine z_callVi F [.int (1 : Int32), .int (2 : Int32), .int (1 : Int32)] [] (kX10_bad x.2.1 G x0 t0 (1 : Int32) (2 : Int32) (1 : Int32) v_1 r_8 v_7 hq90) mI_X10_bad (c := 10) rfl t0 wM_X10_220 mi_X10_bad sl_X10_bad dX10_patrons_90 rfl ⟨Nat.le_of_ble_eq_true rfl, Nat.le_of_ble_eq_true rfl⟩ rfl (Nat.le_of_ble_eq_true rfl) ⟨Nat.zero_le _, Nat.zero_le _⟩ ?_
          refine z_if_eq F 98 dX10_patrons_93 rfl (fun hc => ?_) (fun hc => ?_)
          · replace h := zif_t hc h
            refine z_iconst (y := (0 : Int32)) F dX10_patrons_98 rfl ?_
            refine z_istore (n := 0) F [(5, .int (0 : Int32)), (0, zr G x0), (1, .int x1), (2, .int x2), (3, .int x3), (4, .int x4)] dX10_patrons_99 (Nat.le_of_ble_eq_true rfl) rfl ?_
            refine z_ls [(0, zr G x0), (1, .int x1), (2, .int x2), (3, .int x3), (4, .int x4), (5, .int (0 : Int32))] [1, 2, 3, 4, 5, 0] rfl ?_
            exact jX10_patrons_101 x G F hr hk r w   zFU x0 t0 x1 x2 x3 x4 (0 : Int32) v_7 h
          · replace h := zif_f hc h
            refine z_iconst (y := (0 : Int32)) F dX10_patrons_96 rfl ?_
            cases h
            exact z_reti F hr hk dX10_patrons_97
        · replace h := zif_t hc h
          refine z_iload_n F dX10_patrons_63 rfl 3 rfl ?_
          refine z_iconst (y := (1 : Int32)) F dX10_patrons_64 rfl ?_
          refine z_bipush (y := (99 : Int32)) F dX10_patrons_65 rfl ?_
          obtain ⟨r_10, v_9, hq67, h⟩ := zbind_ex h
          refine z_callSi F [.int x3, .int (1 : Int32), .int (99 : Int32)] [zr G x0] (kX10_in x.2.1 G x3 (1 : Int32) (99 : Int32) v_1 r_10 v_9 hq67) mI_X10_in wM_X10_168 ms_X10_in dX10_patrons_67 rfl ⟨Nat.le_of_ble_eq_true rfl, Nat.le_of_ble_eq_true rfl⟩ rfl (Nat.le_of_ble_eq_true rfl) ⟨Nat.zero_le _, Nat.zero_le _⟩ ?_
          refine z_if_eq F 83 dX10_patrons_70 rfl (fun hc => ?_) (fun hc => ?_)
          · replace h := zif_t hc h
            refine z_iconst (y := (1 : Int32)) F dX10_patrons_83 rfl ?_
            refine z_goto F 88 dX10_patrons_84 rfl ?_
            refine z_iconst (y := (2 : Int32)) F dX10_patrons_88 rfl ?_
            refine z_iconst (y := (1 : Int32)) F dX10_patrons_89 rfl ?_
            obtain ⟨r_12, v_11, hq90, h⟩ := zbind_ex h
            refine z_callVi F [.int (1 : Int32), .int (2 : Int32), .int (1 : Int32)] [] (kX10_bad x.2.1 G x0 t0 (1 : Int32) (2 : Int32) (1 : Int32) v_9 r_12 v_11 hq90) mI_X10_bad (c := 10) rfl t0 wM_X10_220 mi_X10_bad sl_X10_bad dX10_patrons_90 rfl ⟨Nat.le_of_ble_eq_true rfl, Nat.le_of_ble_eq_true rfl⟩ rfl (Nat.le_of_ble_eq_true rfl) ⟨Nat.zero_le _, Nat.zero_le _⟩ ?_
            refine z_if_eq F 98 dX10_patrons_93 rfl (fun hc => ?_) (fun hc => ?_)
            · replace h := zif_t hc h
              refine z_iconst (y := (0 : Int32)) F dX10_patrons_98 rfl ?_
              refine z_istore (n := 0) F [(5, .int (0 : Int32)), (0, zr G x0), (1, .int x1), (2, .int x2), (3, .int x3), (4, .int x4)] dX10_patrons_99 (Nat.le_of_ble_eq_true rfl) rfl ?_
              refine z_ls [(0, zr G x0), (1, .int x1), (2, .int x2), (3, .int x3), (4, .int x4), (5, .int (0 : Int32))] [1, 2, 3, 4, 5, 0] rfl ?_
              exact jX10_patrons_101 x G F hr hk r w   zFU x0 t0 x1 x2 x3 x4 (0 : Int32) v_11 h
            · replace h := zif_f hc h
              refine z_iconst (y := (0 : Int32)) F dX10_patrons_96 rfl ?_
              cases h
              exact z_reti F hr hk dX10_patrons_97
          · replace h := zif_f hc h
            refine z_iload F dX10_patrons_73 4 rfl ?_
            refine z_iconst (y := (0 : Int32)) F dX10_patrons_75 rfl ?_
            refine z_iconst (y := (1 : Int32)) F dX10_patrons_76 rfl ?_
            obtain ⟨r_14, v_13, hq77, h⟩ := zbind_ex h
            refine z_callSi F [.int x4, .int (0 : Int32), .int (1 : Int32)] [zr G x0] (kX10_in x.2.1 G x4 (0 : Int32) (1 : Int32) v_9 r_14 v_13 hq77) mI_X10_in wM_X10_168 ms_X10_in dX10_patrons_77 rfl ⟨Nat.le_of_ble_eq_true rfl, Nat.le_of_ble_eq_true rfl⟩ rfl (Nat.le_of_ble_eq_true rfl) ⟨Nat.zero_le _, Nat.zero_le _⟩ ?_
            refine z_if_ne F 87 dX10_patrons_80 rfl (fun hc => ?_) (fun hc => ?_)
            · replace h := zif_f hc h
              refine z_iconst (y := (0 : Int32)) F dX10_patrons_87 rfl ?_
              refine z_iconst (y := (2 : Int32)) F dX10_patrons_88 rfl ?_
              refine z_iconst (y := (1 : Int32)) F dX10_patrons_89 rfl ?_
              obtain ⟨r_16, v_15, hq90, h⟩ := zbind_ex h
              refine z_callVi F [.int (0 : Int32), .int (2 : Int32), .int (1 : Int32)] [] (kX10_bad x.2.1 G x0 t0 (0 : Int32) (2 : Int32) (1 : Int32) v_13 r_16 v_15 hq90) mI_X10_bad (c := 10) rfl t0 wM_X10_220 mi_X10_bad sl_X10_bad dX10_patrons_90 rfl ⟨Nat.le_of_ble_eq_true rfl, Nat.le_of_ble_eq_true rfl⟩ rfl (Nat.le_of_ble_eq_true rfl) ⟨Nat.zero_le _, Nat.zero_le _⟩ ?_
              refine z_if_eq F 98 dX10_patrons_93 rfl (fun hc => ?_) (fun hc => ?_)
              · replace h := zif_t hc h
                refine z_iconst (y := (0 : Int32)) F dX10_patrons_98 rfl ?_
                refine z_istore (n := 0) F [(5, .int (0 : Int32)), (0, zr G x0), (1, .int x1), (2, .int x2), (3, .int x3), (4, .int x4)] dX10_patrons_99 (Nat.le_of_ble_eq_true rfl) rfl ?_
                refine z_ls [(0, zr G x0), (1, .int x1), (2, .int x2), (3, .int x3), (4, .int x4), (5, .int (0 : Int32))] [1, 2, 3, 4, 5, 0] rfl ?_
                exact jX10_patrons_101 x G F hr hk r w   zFU x0 t0 x1 x2 x3 x4 (0 : Int32) v_15 h
              · replace h := zif_f hc h
                refine z_iconst (y := (0 : Int32)) F dX10_patrons_96 rfl ?_
                cases h
                exact z_reti F hr hk dX10_patrons_97
            · replace h := zif_t hc h
              refine z_iconst (y := (1 : Int32)) F dX10_patrons_83 rfl ?_
              refine z_goto F 88 dX10_patrons_84 rfl ?_
              refine z_iconst (y := (2 : Int32)) F dX10_patrons_88 rfl ?_
              refine z_iconst (y := (1 : Int32)) F dX10_patrons_89 rfl ?_
              obtain ⟨r_18, v_17, hq90, h⟩ := zbind_ex h
              refine z_callVi F [.int (1 : Int32), .int (2 : Int32), .int (1 : Int32)] [] (kX10_bad x.2.1 G x0 t0 (1 : Int32) (2 : Int32) (1 : Int32) v_13 r_18 v_17 hq90) mI_X10_bad (c := 10) rfl t0 wM_X10_220 mi_X10_bad sl_X10_bad dX10_patrons_90 rfl ⟨Nat.le_of_ble_eq_true rfl, Nat.le_of_ble_eq_true rfl⟩ rfl (Nat.le_of_ble_eq_true rfl) ⟨Nat.zero_le _, Nat.zero_le _⟩ ?_
              refine z_if_eq F 98 dX10_patrons_93 rfl (fun hc => ?_) (fun hc => ?_)
              · replace h := zif_t hc h
                refine z_iconst (y := (0 : Int32)) F dX10_patrons_98 rfl ?_
                refine z_istore (n := 0) F [(5, .int (0 : Int32)), (0, zr G x0), (1, .int x1), (2, .int x2), (3, .int x3), (4, .int x4)] dX10_patrons_99 (Nat.le_of_ble_eq_true rfl) rfl ?_
                refine z_ls [(0, zr G x0), (1, .int x1), (2, .int x2), (3, .int x3), (4, .int x4), (5, .int (0 : Int32))] [1, 2, 3, 4, 5, 0] rfl ?_
                exact jX10_patrons_101 x G F hr hk r w   zFU x0 t0 x1 x2 x3 x4 (0 : Int32) v_17 h
              · replace h := zif_f hc h
                refine z_iconst (y := (0 : Int32)) F dX10_patrons_96 rfl ?_
                cases h
                exact z_reti F hr hk dX10_patrons_97

def fX10_patrons (x0 : Nat) (x1 : Int32) (x2 : Int32) (x3 : Int32) (x4 : Int32) (v : zV) : Option (Int32 × zV) :=
  zlet (zup v x0 0 (0 : Int32)) fun v_1 =>
  zbind (fX10_isMan x0 x1 v_1) fun r_3 v_2 =>
  if r_3 = (0 : Int32) then
    fX10_patrons_27  x0 x1 x2 x3 x4 x0 (1 : Int32) v_2
  else
    zbind (fX10_isMan x0 x2 v_2) fun r_5 v_4 =>
    if r_5 = (0 : Int32) then
      fX10_patrons_27  x0 x1 x2 x3 x4 x0 (1 : Int32) v_4
    else
      fX10_patrons_27  x0 x1 x2 x3 x4 x0 (0 : Int32) v_4
set_option maxRecDepth 4000 in
theorem kX10_patrons (l : Launch) (G : zG) (x0 : Nat) (t0 : zty G x0 1 10) (x1 : Int32) (x2 : Int32) (x3 : Int32) (x4 : Int32) (v : zV) (r : Int32) (w : zV) (h : fX10_patrons x0 x1 x2 x3 x4 v = some (r, w)) : zMet l yX10_patrons cX10_patrons 9 (Option.some FieldType.int) 8 239 0 0 [zr G x0, .int x1, .int x2, .int x3, .int x4] G v (some (.int r)) w := by
  refine zM_of (own := RX10) (by decide) rfl (Nat.le_of_ble_eq_true rfl) (fun x hl F hr hk hcs => ?_)
  subst hl
  refine z_ls [(0, zr G x0), (1, .int x1), (2, .int x2), (3, .int x3), (4, .int x4)] [0, 1, 2, 3, 4] rfl ?_
  unfold fX10_patrons at h
  refine z_aload_n F dX10_patrons_0 rfl 0 rfl ?_
  refine z_iconst (y := (0 : Int32)) F dX10_patrons_1 rfl ?_
  refine zp_10_0 F t0 wF_X10_134 dX10_patrons_2 ?_
  obtain ⟨v_1, ev_1, h⟩ := zlet_ex h
  refine z_heap ev_1 ?_
  refine z_aload_n F dX10_patrons_5 rfl 0 rfl ?_
  refine z_aload_n F dX10_patrons_6 rfl 0 rfl ?_
  refine z_iload_n F dX10_patrons_7 rfl 1 rfl ?_
  obtain ⟨r_3, v_2, hq8, h⟩ := zbind_ex h
  refine z_callVi F [.int x1] [zr G x0] (kX10_isMan x.2.1 G x0 t0 x1 v_1 r_3 v_2 hq8) mI_X10_isMan (c := 10) rfl t0 wM_X10_298 mi_X10_isMan sl_X10_isMan dX10_patrons_8 rfl ⟨Nat.le_of_ble_eq_true rfl, Nat.le_of_ble_eq_true rfl⟩ rfl (Nat.le_of_ble_eq_true rfl) ⟨Nat.zero_le _, Nat.zero_le _⟩ ?_
  refine z_if_eq F 22 dX10_patrons_11 rfl (fun hc => ?_) (fun hc => ?_)
  · replace h := zif_t hc h
    refine z_iconst (y := (1 : Int32)) F dX10_patrons_22 rfl ?_
    refine z_goto F 27 dX10_patrons_23 rfl ?_
    refine z_ls [(0, zr G x0), (1, .int x1), (2, .int x2), (3, .int x3), (4, .int x4)] [0, 1, 2, 3, 4] rfl ?_
    exact jX10_patrons_27 x G F hr hk r w   x0 t0 x1 x2 x3 x4 x0 t0 (1 : Int32) v_2 h
  · replace h := zif_f hc h
    refine z_aload_n F dX10_patrons_14 rfl 0 rfl ?_
    refine z_iload_n F dX10_patrons_15 rfl 2 rfl ?_
    obtain ⟨r_5, v_4, hq16, h⟩ := zbind_ex h
    refine z_callVi F [.int x2] [zr G x0] (kX10_isMan x.2.1 G x0 t0 x2 v_2 r_5 v_4 hq16) mI_X10_isMan (c := 10) rfl t0 wM_X10_298 mi_X10_isMan sl_X10_isMan dX10_patrons_16 rfl ⟨Nat.le_of_ble_eq_true rfl, Nat.le_of_ble_eq_true rfl⟩ rfl (Nat.le_of_ble_eq_true rfl) ⟨Nat.zero_le _, Nat.zero_le _⟩ ?_
    refine z_if_ne F 26 dX10_patrons_19 rfl (fun hc => ?_) (fun hc => ?_)
    · replace h := zif_f hc h
      refine z_iconst (y := (0 : Int32)) F dX10_patrons_26 rfl ?_
      refine z_ls [(0, zr G x0), (1, .int x1), (2, .int x2), (3, .int x3), (4, .int x4)] [0, 1, 2, 3, 4] rfl ?_
      exact jX10_patrons_27 x G F hr hk r w   x0 t0 x1 x2 x3 x4 x0 t0 (0 : Int32) v_4 h
    · replace h := zif_t hc h
      refine z_iconst (y := (1 : Int32)) F dX10_patrons_22 rfl ?_
      refine z_goto F 27 dX10_patrons_23 rfl ?_
      refine z_ls [(0, zr G x0), (1, .int x1), (2, .int x2), (3, .int x3), (4, .int x4)] [0, 1, 2, 3, 4] rfl ?_
      exact jX10_patrons_27 x G F hr hk r w   x0 t0 x1 x2 x3 x4 x0 t0 (1 : Int32) v_4 h

theorem dX10_rightLines_0 : decode cX10_rightLines 0 = .ok (.iconst 0, 1) := by decide +kernel
theorem dX10_rightLines_1 : decode cX10_rightLines 1 = .ok (.istore_n 1, 1) := by decide +kernel
theorem dX10_rightLines_2 : decode cX10_rightLines 2 = .ok (.iconst 0, 1) := by decide +kernel
theorem dX10_rightLines_3 : decode cX10_rightLines 3 = .ok (.istore_n 2, 1) := by decide +kernel
theorem dX10_rightLines_4 : decode cX10_rightLines 4 = .ok (.iconst 0, 1) := by decide +kernel
theorem dX10_rightLines_5 : decode cX10_rightLines 5 = .ok (.istore_n 3, 1) := by decide +kernel
theorem dX10_rightLines_6 : decode cX10_rightLines 6 = .ok (.iload_n 3, 1) := by decide +kernel
theorem dX10_rightLines_7 : decode cX10_rightLines 7 = .ok (.aload_n 0, 1) := by decide +kernel
theorem dX10_rightLines_8 : decode cX10_rightLines 8 = .ok (.getfield 244, 3) := by decide +kernel
theorem dX10_rightLines_11 : decode cX10_rightLines 11 = .ok (.if_icmp .ge 22, 3) := by decide +kernel
theorem dX10_rightLines_14 : decode cX10_rightLines 14 = .ok (.iload_n 1, 1) := by decide +kernel
theorem dX10_rightLines_15 : decode cX10_rightLines 15 = .ok (.aload_n 0, 1) := by decide +kernel
theorem dX10_rightLines_16 : decode cX10_rightLines 16 = .ok (.getfield 70, 3) := by decide +kernel
theorem dX10_rightLines_19 : decode cX10_rightLines 19 = .ok (.iload_n 3, 1) := by decide +kernel
theorem dX10_rightLines_20 : decode cX10_rightLines 20 = .ok (.aaload, 1) := by decide +kernel
theorem dX10_rightLines_21 : decode cX10_rightLines 21 = .ok (.iconst 0, 1) := by decide +kernel
theorem dX10_rightLines_22 : decode cX10_rightLines 22 = .ok (.iaload, 1) := by decide +kernel
theorem dX10_rightLines_23 : decode cX10_rightLines 23 = .ok (.invokestatic 287, 3) := by decide +kernel
theorem dX10_rightLines_26 : decode cX10_rightLines 26 = .ok (.istore_n 1, 1) := by decide +kernel
theorem dX10_rightLines_27 : decode cX10_rightLines 27 = .ok (.iinc 3 1, 3) := by decide +kernel
theorem dX10_rightLines_30 : decode cX10_rightLines 30 = .ok (.goto (-24), 3) := by decide +kernel
theorem dX10_rightLines_33 : decode cX10_rightLines 33 = .ok (.aload_n 0, 1) := by decide +kernel
theorem dX10_rightLines_34 : decode cX10_rightLines 34 = .ok (.getfield 91, 3) := by decide +kernel
theorem dX10_rightLines_37 : decode cX10_rightLines 37 = .ok (.aload_n 0, 1) := by decide +kernel
theorem dX10_rightLines_38 : decode cX10_rightLines 38 = .ok (.getfield 97, 3) := by decide +kernel
theorem dX10_rightLines_41 : decode cX10_rightLines 41 = .ok (.invokestatic 237, 3) := by decide +kernel
theorem dX10_rightLines_44 : decode cX10_rightLines 44 = .ok (.iconst 0, 1) := by decide +kernel
theorem dX10_rightLines_45 : decode cX10_rightLines 45 = .ok (.istore_n 3, 1) := by decide +kernel
theorem dX10_rightLines_46 : decode cX10_rightLines 46 = .ok (.iload_n 3, 1) := by decide +kernel
theorem dX10_rightLines_47 : decode cX10_rightLines 47 = .ok (.iload_n 1, 1) := by decide +kernel
theorem dX10_rightLines_48 : decode cX10_rightLines 48 = .ok (.if_icmp .ge 17, 3) := by decide +kernel
theorem dX10_rightLines_51 : decode cX10_rightLines 51 = .ok (.aload_n 0, 1) := by decide +kernel
theorem dX10_rightLines_52 : decode cX10_rightLines 52 = .ok (.aload_n 0, 1) := by decide +kernel
theorem dX10_rightLines_53 : decode cX10_rightLines 53 = .ok (.getfield 97, 3) := by decide +kernel
theorem dX10_rightLines_56 : decode cX10_rightLines 56 = .ok (.invokevirtual 359, 3) := by decide +kernel
theorem dX10_rightLines_59 : decode cX10_rightLines 59 = .ok (.iinc 3 1, 3) := by decide +kernel
theorem dX10_rightLines_62 : decode cX10_rightLines 62 = .ok (.goto (-16), 3) := by decide +kernel
theorem dX10_rightLines_65 : decode cX10_rightLines 65 = .ok (.iload_n 2, 1) := by decide +kernel
theorem dX10_rightLines_66 : decode cX10_rightLines 66 = .ok (.aload_n 0, 1) := by decide +kernel
theorem dX10_rightLines_67 : decode cX10_rightLines 67 = .ok (.getfield 244, 3) := by decide +kernel
theorem dX10_rightLines_70 : decode cX10_rightLines 70 = .ok (.if_icmp .ge 36, 3) := by decide +kernel
theorem dX10_rightLines_73 : decode cX10_rightLines 73 = .ok (.aload_n 0, 1) := by decide +kernel
theorem dX10_rightLines_74 : decode cX10_rightLines 74 = .ok (.getfield 97, 3) := by decide +kernel
theorem dX10_rightLines_77 : decode cX10_rightLines 77 = .ok (.bipush 104, 2) := by decide +kernel
theorem dX10_rightLines_79 : decode cX10_rightLines 79 = .ok (.aload_n 0, 1) := by decide +kernel
theorem dX10_rightLines_80 : decode cX10_rightLines 80 = .ok (.getfield 70, 3) := by decide +kernel
theorem dX10_rightLines_83 : decode cX10_rightLines 83 = .ok (.iload_n 2, 1) := by decide +kernel
theorem dX10_rightLines_84 : decode cX10_rightLines 84 = .ok (.aaload, 1) := by decide +kernel
theorem dX10_rightLines_85 : decode cX10_rightLines 85 = .ok (.iconst 0, 1) := by decide +kernel
theorem dX10_rightLines_86 : decode cX10_rightLines 86 = .ok (.iaload, 1) := by decide +kernel
theorem dX10_rightLines_87 : decode cX10_rightLines 87 = .ok (.iadd, 1) := by decide +kernel
theorem dX10_rightLines_88 : decode cX10_rightLines 88 = .ok (.iaload, 1) := by decide +kernel
theorem dX10_rightLines_89 : decode cX10_rightLines 89 = .ok (.aload_n 0, 1) := by decide +kernel
theorem dX10_rightLines_90 : decode cX10_rightLines 90 = .ok (.getfield 70, 3) := by decide +kernel
theorem dX10_rightLines_93 : decode cX10_rightLines 93 = .ok (.iload_n 2, 1) := by decide +kernel
theorem dX10_rightLines_94 : decode cX10_rightLines 94 = .ok (.aaload, 1) := by decide +kernel
theorem dX10_rightLines_95 : decode cX10_rightLines 95 = .ok (.iconst 1, 1) := by decide +kernel
theorem dX10_rightLines_96 : decode cX10_rightLines 96 = .ok (.iaload, 1) := by decide +kernel
theorem dX10_rightLines_97 : decode cX10_rightLines 97 = .ok (.if_icmp .ne 9, 3) := by decide +kernel
theorem dX10_rightLines_100 : decode cX10_rightLines 100 = .ok (.iinc 2 1, 3) := by decide +kernel
theorem dX10_rightLines_103 : decode cX10_rightLines 103 = .ok (.goto (-38), 3) := by decide +kernel
theorem dX10_rightLines_106 : decode cX10_rightLines 106 = .ok (.iload_n 2, 1) := by decide +kernel
theorem dX10_rightLines_107 : decode cX10_rightLines 107 = .ok (.ireturn, 1) := by decide +kernel
def fX10_rightLines_65  : Nat → Nat → Int32 → zV → Option (Int32 × zV)
  | 0 => fun _ _ _ => none
  | n + 1 => fun x0 x2 v =>
    if (v x0 40) ≤ x2 then
      some (x2, v)
    else
      zix x2 (zlen (zrf x0 30)) <|
      zix (0 : Int32) (zlen (zrf (zrf x0 30) (x2).toNatClampNeg)) <|
      zix ((104 : Int32) + (v (zrf (zrf x0 30) (x2).toNatClampNeg) ((0 : Int32)).toNatClampNeg)) (zlen (zrf x0 39)) <|
      zix x2 (zlen (zrf x0 30)) <|
      zix (1 : Int32) (zlen (zrf (zrf x0 30) (x2).toNatClampNeg)) <|
      if (v (zrf x0 39) ((104 : Int32) + (v (zrf (zrf x0 30) (x2).toNatClampNeg) ((0 : Int32)).toNatClampNeg)).toNatClampNeg) = (v (zrf (zrf x0 30) (x2).toNatClampNeg) ((1 : Int32)).toNatClampNeg) then
        (fX10_rightLines_65 n) x0 (x2 + (1 : Int32)) v
      else
        some (x2, v)
set_option maxRecDepth 4000 in
theorem jX10_rightLines_65 (x : zCx) (G : zG) (F : zF x G cX10_rightLines 4 RX10 7 215) (hr : x.2.2.2.2.2.2.2.2.1.sig.returnType = (Option.some FieldType.int)) (hk : x.2.2.2.2.2.2.2.2.1.locks = false) (r : Int32) (w : zV)  : ∀ (n : Nat) (x0 : Nat) (t0 : zty G x0 1 10) (x2 : Int32) (v : zV), fX10_rightLines_65 n x0 x2 v = some (r, w) → zJ x G 4 (zQ x G (some (.int r)) w 0 0) 0 0 65 [(0, zr G x0), (2, .int x2)] [] v := by
  intro n
  induction n with
  | zero => intro x0 t0 x2 v h; exact absurd h (by intro q; cases q)
  | succ n ih =>
    intro x0 t0 x2 v h
    rw [fX10_rightLines_65] at h
    dsimp only at h
    refine z_iload_n F dX10_rightLines_65 rfl 1 rfl ?_
    refine z_aload_n F dX10_rightLines_66 rfl 0 rfl ?_
    refine zg_10_40 F t0 wF_X10_244 dX10_rightLines_67 ?_
    refine z_icmp_ge F 106 dX10_rightLines_70 rfl (fun hc => ?_) (fun hc => ?_)
    · replace h := zif_t hc h
      refine z_iload_n F dX10_rightLines_106 rfl 1 rfl ?_
      cases h
      exact z_reti F hr hk dX10_rightLines_107
    · replace h := zif_f hc h
      refine z_aload_n F dX10_rightLines_73 rfl 0 rfl ?_
      refine zg_10_39 F t0 wF_X10_97 dX10_rightLines_74 ?_
      refine z_bipush (y := (104 : Int32)) F dX10_rightLines_77 rfl ?_
      refine z_aload_n F dX10_rightLines_79 rfl 0 rfl ?_
      refine zg_10_30 F t0 wF_X10_70 dX10_rightLines_80 ?_
      refine z_iload_n F dX10_rightLines_83 rfl 1 rfl ?_
      obtain ⟨hi84, h⟩ := zix_ex h
      refine z_aald3 F (zt_f tc_10_30 t0) dX10_rightLines_84 hi84 ?_
      refine z_iconst (y := (0 : Int32)) F dX10_rightLines_85 rfl ?_
      obtain ⟨hi86, h⟩ := zix_ex h
      refine z_iald F (zt_a tcA_3 (zt_f tc_10_30 t0) (zin_lt hi84)) dX10_rightLines_86 hi86 ?_
      refine z_iadd F dX10_rightLines_87 ?_
      obtain ⟨hi88, h⟩ := zix_ex h
      refine z_iald F (zt_f tc_10_39 t0) dX10_rightLines_88 hi88 ?_
      refine z_aload_n F dX10_rightLines_89 rfl 0 rfl ?_
      refine zg_10_30 F t0 wF_X10_70 dX10_rightLines_90 ?_
      refine z_iload_n F dX10_rightLines_93 rfl 1 rfl ?_
      obtain ⟨hi94, h⟩ := zix_ex h
      refine z_aald3 F (zt_f tc_10_30 t0) dX10_rightLines_94 hi94 ?_
      refine z_iconst (y := (1 : Int32)) F dX10_rightLines_95 rfl ?_
      obtain ⟨hi96, h⟩ := zix_ex h
      refine z_iald F (zt_a tcA_3 (zt_f tc_10_30 t0) (zin_lt hi94)) dX10_rightLines_96 hi96 ?_
      refine z_icmp_ne F 106 dX10_rightLines_97 rfl (fun hc => ?_) (fun hc => ?_)
      · replace h := zif_f hc h
        refine z_iload_n F dX10_rightLines_106 rfl 1 rfl ?_
        cases h
        exact z_reti F hr hk dX10_rightLines_107
      · replace h := zif_t hc h
        refine z_iinc F [(2, .int (x2 + (1 : Int32))), (0, zr G x0)] dX10_rightLines_100 1 rfl rfl (Nat.le_of_ble_eq_true rfl) rfl ?_
        refine z_goto F 65 dX10_rightLines_103 rfl ?_
        refine z_ls [(0, zr G x0), (2, .int (x2 + (1 : Int32)))] [1, 0] rfl ?_
        exact ih x0 t0 (x2 + (1 : Int32)) v h

def fX10_rightLines_46  : Nat → Nat → Int32 → Int32 → Int32 → zV → Option (Int32 × zV)
  | 0 => fun _ _ _ _ _ => none
  | n + 1 => fun x0 x1 x2 x3 v =>
    if x1 ≤ x3 then
      fX10_rightLines_65  zFU x0 x2 v
    else
      zbindv (fX10_goes x0 (zrf x0 39) v) fun v_1 =>
      (fX10_rightLines_46 n) x0 x1 x2 (x3 + (1 : Int32)) v_1
set_option maxRecDepth 4000 in
theorem jX10_rightLines_46 (x : zCx) (G : zG) (F : zF x G cX10_rightLines 4 RX10 7 215) (hr : x.2.2.2.2.2.2.2.2.1.sig.returnType = (Option.some FieldType.int)) (hk : x.2.2.2.2.2.2.2.2.1.locks = false) (r : Int32) (w : zV)  : ∀ (n : Nat) (x0 : Nat) (t0 : zty G x0 1 10) (x1 : Int32) (x2 : Int32) (x3 : Int32) (v : zV), fX10_rightLines_46 n x0 x1 x2 x3 v = some (r, w) → zJ x G 4 (zQ x G (some (.int r)) w 0 0) 0 0 46 [(0, zr G x0), (1, .int x1), (2, .int x2), (3, .int x3)] [] v := by
  intro n
  induction n with
  | zero => intro x0 t0 x1 x2 x3 v h; exact absurd h (by intro q; cases q)
  | succ n ih =>
    intro x0 t0 x1 x2 x3 v h
    rw [fX10_rightLines_46] at h
    dsimp only at h
    refine z_iload_n F dX10_rightLines_46 rfl 3 rfl ?_
    refine z_iload_n F dX10_rightLines_47 rfl 1 rfl ?_
    refine z_icmp_ge F 65 dX10_rightLines_48 rfl (fun hc => ?_) (fun hc => ?_)
    · replace h := zif_t hc h
      refine z_ls [(0, zr G x0), (2, .int x2)] [0, 2] rfl ?_
      exact jX10_rightLines_65 x G F hr hk r w   zFU x0 t0 x2 v h
    · replace h := zif_f hc h
      refine z_aload_n F dX10_rightLines_51 rfl 0 rfl ?_
      refine z_aload_n F dX10_rightLines_52 rfl 0 rfl ?_
      refine zg_10_39 F t0 wF_X10_97 dX10_rightLines_53 ?_
      obtain ⟨v_1, hq56, h⟩ := zbindv_ex h
      refine z_callVv F [zr G (zrf x0 39)] [] (kX10_goes x.2.1 G x0 t0 (zrf x0 39) (zt_f tc_10_39 t0) v v_1 hq56) mI_X10_goes (c := 10) rfl t0 wM_X10_359 mi_X10_goes sl_X10_goes dX10_rightLines_56 rfl ⟨Nat.le_of_ble_eq_true rfl, Nat.le_of_ble_eq_true rfl⟩ rfl (Nat.le_of_ble_eq_true rfl) ⟨Nat.zero_le _, Nat.zero_le _⟩ ?_
      refine z_iinc F [(3, .int (x3 + (1 : Int32))), (0, zr G x0), (1, .int x1), (2, .int x2)] dX10_rightLines_59 3 rfl rfl (Nat.le_of_ble_eq_true rfl) rfl ?_
      refine z_goto F 46 dX10_rightLines_62 rfl ?_
      refine z_ls [(0, zr G x0), (1, .int x1), (2, .int x2), (3, .int (x3 + (1 : Int32)))] [1, 2, 3, 0] rfl ?_
      exact ih x0 t0 x1 x2 (x3 + (1 : Int32)) v_1 h

def fX10_rightLines_6  : Nat → Nat → Int32 → Int32 → Int32 → zV → Option (Int32 × zV)
  | 0 => fun _ _ _ _ _ => none
  | n + 1 => fun x0 x1 x2 x3 v =>
    if (v x0 40) ≤ x3 then
      zbindv (fX10_copies (zrf x0 37) (zrf x0 39) v) fun v_1 =>
      fX10_rightLines_46  zFU x0 x1 x2 (0 : Int32) v_1
    else
      zix x3 (zlen (zrf x0 30)) <|
      zix (0 : Int32) (zlen (zrf (zrf x0 30) (x3).toNatClampNeg)) <|
      zbind (fX10_more x1 (v (zrf (zrf x0 30) (x3).toNatClampNeg) ((0 : Int32)).toNatClampNeg) v) fun r_3 v_2 =>
      (fX10_rightLines_6 n) x0 r_3 x2 (x3 + (1 : Int32)) v_2
set_option maxRecDepth 4000 in
theorem jX10_rightLines_6 (x : zCx) (G : zG) (F : zF x G cX10_rightLines 4 RX10 7 215) (hr : x.2.2.2.2.2.2.2.2.1.sig.returnType = (Option.some FieldType.int)) (hk : x.2.2.2.2.2.2.2.2.1.locks = false) (r : Int32) (w : zV)  : ∀ (n : Nat) (x0 : Nat) (t0 : zty G x0 1 10) (x1 : Int32) (x2 : Int32) (x3 : Int32) (v : zV), fX10_rightLines_6 n x0 x1 x2 x3 v = some (r, w) → zJ x G 4 (zQ x G (some (.int r)) w 0 0) 0 0 6 [(0, zr G x0), (1, .int x1), (2, .int x2), (3, .int x3)] [] v := by
  intro n
  induction n with
  | zero => intro x0 t0 x1 x2 x3 v h; exact absurd h (by intro q; cases q)
  | succ n ih =>
    intro x0 t0 x1 x2 x3 v h
    rw [fX10_rightLines_6] at h
    dsimp only at h
    refine z_iload_n F dX10_rightLines_6 rfl 3 rfl ?_
    refine z_aload_n F dX10_rightLines_7 rfl 0 rfl ?_
    refine zg_10_40 F t0 wF_X10_244 dX10_rightLines_8 ?_
    refine z_icmp_ge F 33 dX10_rightLines_11 rfl (fun hc => ?_) (fun hc => ?_)
    · replace h := zif_t hc h
      refine z_aload_n F dX10_rightLines_33 rfl 0 rfl ?_
      refine zg_10_37 F t0 wF_X10_91 dX10_rightLines_34 ?_
      refine z_aload_n F dX10_rightLines_37 rfl 0 rfl ?_
      refine zg_10_39 F t0 wF_X10_97 dX10_rightLines_38 ?_
      obtain ⟨v_1, hq41, h⟩ := zbindv_ex h
      refine z_callSv F [zr G (zrf x0 37), zr G (zrf x0 39)] [] (kX10_copies x.2.1 G (zrf x0 37) (zt_f tc_10_37 t0) (zrf x0 39) (zt_f tc_10_39 t0) v v_1 hq41) mI_X10_copies wM_X10_237 ms_X10_copies dX10_rightLines_41 rfl ⟨Nat.le_of_ble_eq_true rfl, Nat.le_of_ble_eq_true rfl⟩ rfl (Nat.le_of_ble_eq_true rfl) ⟨Nat.zero_le _, Nat.zero_le _⟩ ?_
      refine z_iconst (y := (0 : Int32)) F dX10_rightLines_44 rfl ?_
      refine z_istore_n F [(3, .int (0 : Int32)), (0, zr G x0), (1, .int x1), (2, .int x2)] dX10_rightLines_45 rfl (Nat.le_of_ble_eq_true rfl) rfl ?_
      refine z_ls [(0, zr G x0), (1, .int x1), (2, .int x2), (3, .int (0 : Int32))] [1, 2, 3, 0] rfl ?_
      exact jX10_rightLines_46 x G F hr hk r w   zFU x0 t0 x1 x2 (0 : Int32) v_1 h
    · replace h := zif_f hc h
      refine z_iload_n F dX10_rightLines_14 rfl 1 rfl ?_
      refine z_aload_n F dX10_rightLines_15 rfl 0 rfl ?_
      refine zg_10_30 F t0 wF_X10_70 dX10_rightLines_16 ?_
      refine z_iload_n F dX10_rightLines_19 rfl 3 rfl ?_
      obtain ⟨hi20, h⟩ := zix_ex h
      refine z_aald3 F (zt_f tc_10_30 t0) dX10_rightLines_20 hi20 ?_
      refine z_iconst (y := (0 : Int32)) F dX10_rightLines_21 rfl ?_
      obtain ⟨hi22, h⟩ := zix_ex h
      refine z_iald F (zt_a tcA_3 (zt_f tc_10_30 t0) (zin_lt hi20)) dX10_rightLines_22 hi22 ?_
      obtain ⟨r_3, v_2, hq23, h⟩ := zbind_ex h
      refine z_callSi F [.int x1, .int (v (zrf (zrf x0 30) (x3).toNatClampNeg) ((0 : Int32)).toNatClampNeg)] [] (kX10_more x.2.1 G x1 (v (zrf (zrf x0 30) (x3).toNatClampNeg) ((0 : Int32)).toNatClampNeg) v r_3 v_2 hq23) mI_X10_more wM_X10_287 ms_X10_more dX10_rightLines_23 rfl ⟨Nat.le_of_ble_eq_true rfl, Nat.le_of_ble_eq_true rfl⟩ rfl (Nat.le_of_ble_eq_true rfl) ⟨Nat.zero_le _, Nat.zero_le _⟩ ?_
      refine z_istore_n F [(1, .int r_3), (0, zr G x0), (2, .int x2), (3, .int x3)] dX10_rightLines_26 rfl (Nat.le_of_ble_eq_true rfl) rfl ?_
      refine z_iinc F [(3, .int (x3 + (1 : Int32))), (1, .int r_3), (0, zr G x0), (2, .int x2)] dX10_rightLines_27 3 rfl rfl (Nat.le_of_ble_eq_true rfl) rfl ?_
      refine z_goto F 6 dX10_rightLines_30 rfl ?_
      refine z_ls [(0, zr G x0), (1, .int r_3), (2, .int x2), (3, .int (x3 + (1 : Int32)))] [2, 1, 3, 0] rfl ?_
      exact ih x0 t0 r_3 x2 (x3 + (1 : Int32)) v_2 h

def fX10_rightLines (x0 : Nat) (v : zV) : Option (Int32 × zV) :=
  fX10_rightLines_6  zFU x0 (0 : Int32) (0 : Int32) (0 : Int32) v
set_option maxRecDepth 4000 in
theorem kX10_rightLines (l : Launch) (G : zG) (x0 : Nat) (t0 : zty G x0 1 10) (v : zV) (r : Int32) (w : zV) (h : fX10_rightLines x0 v = some (r, w)) : zMet l yX10_rightLines cX10_rightLines 4 (Option.some FieldType.int) 7 215 0 0 [zr G x0] G v (some (.int r)) w := by
  refine zM_of (own := RX10) (by decide) rfl (Nat.le_of_ble_eq_true rfl) (fun x hl F hr hk hcs => ?_)
  subst hl
  refine z_ls [(0, zr G x0)] [0] rfl ?_
  unfold fX10_rightLines at h
  refine z_iconst (y := (0 : Int32)) F dX10_rightLines_0 rfl ?_
  refine z_istore_n F [(1, .int (0 : Int32)), (0, zr G x0)] dX10_rightLines_1 rfl (Nat.le_of_ble_eq_true rfl) rfl ?_
  refine z_iconst (y := (0 : Int32)) F dX10_rightLines_2 rfl ?_
  refine z_istore_n F [(2, .int (0 : Int32)), (1, .int (0 : Int32)), (0, zr G x0)] dX10_rightLines_3 rfl (Nat.le_of_ble_eq_true rfl) rfl ?_
  refine z_iconst (y := (0 : Int32)) F dX10_rightLines_4 rfl ?_
  refine z_istore_n F [(3, .int (0 : Int32)), (2, .int (0 : Int32)), (1, .int (0 : Int32)), (0, zr G x0)] dX10_rightLines_5 rfl (Nat.le_of_ble_eq_true rfl) rfl ?_
  refine z_ls [(0, zr G x0), (1, .int (0 : Int32)), (2, .int (0 : Int32)), (3, .int (0 : Int32))] [3, 2, 1, 0] rfl ?_
  exact jX10_rightLines_6 x G F hr hk r w   zFU x0 t0 (0 : Int32) (0 : Int32) (0 : Int32) v h

theorem dX10_right_0 : decode cX10_right 0 = .ok (.aload_n 0, 1) := by decide +kernel
theorem dX10_right_1 : decode cX10_right 1 = .ok (.iconst 0, 1) := by decide +kernel
theorem dX10_right_2 : decode cX10_right 2 = .ok (.putfield 134, 3) := by decide +kernel
theorem dX10_right_5 : decode cX10_right 5 = .ok (.aload_n 0, 1) := by decide +kernel
theorem dX10_right_6 : decode cX10_right 6 = .ok (.invokevirtual 385, 3) := by decide +kernel
theorem dX10_right_9 : decode cX10_right 9 = .ok (.ireturn, 1) := by decide +kernel
def fX10_right (x0 : Nat) (v : zV) : Option (Int32 × zV) :=
  zlet (zup v x0 0 (0 : Int32)) fun v_1 =>
  zbind (fX10_rightLines x0 v_1) fun r_3 v_2 =>
  some (r_3, v_2)
set_option maxRecDepth 4000 in
theorem kX10_right (l : Launch) (G : zG) (x0 : Nat) (t0 : zty G x0 1 10) (v : zV) (r : Int32) (w : zV) (h : fX10_right x0 v = some (r, w)) : zMet l yX10_right cX10_right 1 (Option.some FieldType.int) 8 238 0 0 [zr G x0] G v (some (.int r)) w := by
  refine zM_of (own := RX10) (by decide) rfl (Nat.le_of_ble_eq_true rfl) (fun x hl F hr hk hcs => ?_)
  subst hl
  refine z_ls [(0, zr G x0)] [0] rfl ?_
  unfold fX10_right at h
  refine z_aload_n F dX10_right_0 rfl 0 rfl ?_
  refine z_iconst (y := (0 : Int32)) F dX10_right_1 rfl ?_
  refine zp_10_0 F t0 wF_X10_134 dX10_right_2 ?_
  obtain ⟨v_1, ev_1, h⟩ := zlet_ex h
  refine z_heap ev_1 ?_
  refine z_aload_n F dX10_right_5 rfl 0 rfl ?_
  obtain ⟨r_3, v_2, hq6, h⟩ := zbind_ex h
  refine z_callVi F [] [] (kX10_rightLines x.2.1 G x0 t0 v_1 r_3 v_2 hq6) mI_X10_rightLines (c := 10) rfl t0 wM_X10_385 mi_X10_rightLines sl_X10_rightLines dX10_right_6 rfl ⟨Nat.le_of_ble_eq_true rfl, Nat.le_of_ble_eq_true rfl⟩ rfl (Nat.le_of_ble_eq_true rfl) ⟨Nat.zero_le _, Nat.zero_le _⟩ ?_
  cases h
  exact z_reti F hr hk dX10_right_9

