theorem dX3_waitingMen_0 : decode cX3_waitingMen 0 = .ok (.iconst 0, 1) := by decide +kernel
theorem dX3_waitingMen_1 : decode cX3_waitingMen 1 = .ok (.istore_n 1, 1) := by decide +kernel
theorem dX3_waitingMen_2 : decode cX3_waitingMen 2 = .ok (.iconst 0, 1) := by decide +kernel
theorem dX3_waitingMen_3 : decode cX3_waitingMen 3 = .ok (.istore_n 2, 1) := by decide +kernel
theorem dX3_waitingMen_4 : decode cX3_waitingMen 4 = .ok (.iload_n 2, 1) := by decide +kernel
theorem dX3_waitingMen_5 : decode cX3_waitingMen 5 = .ok (.aload_n 0, 1) := by decide +kernel
theorem dX3_waitingMen_6 : decode cX3_waitingMen 6 = .ok (.getfield 15, 3) := by decide +kernel
theorem dX3_waitingMen_9 : decode cX3_waitingMen 9 = .ok (.getfield 23, 3) := by decide +kernel
theorem dX3_waitingMen_12 : decode cX3_waitingMen 12 = .ok (.if_icmp .ge 23, 3) := by decide +kernel
theorem dX3_waitingMen_15 : decode cX3_waitingMen 15 = .ok (.aload_n 0, 1) := by decide +kernel
theorem dX3_waitingMen_16 : decode cX3_waitingMen 16 = .ok (.getfield 19, 3) := by decide +kernel
theorem dX3_waitingMen_19 : decode cX3_waitingMen 19 = .ok (.iload_n 2, 1) := by decide +kernel
theorem dX3_waitingMen_20 : decode cX3_waitingMen 20 = .ok (.invokevirtual 29, 3) := by decide +kernel
theorem dX3_waitingMen_23 : decode cX3_waitingMen 23 = .ok (.ifCond .eq 6, 3) := by decide +kernel
theorem dX3_waitingMen_26 : decode cX3_waitingMen 26 = .ok (.iinc 1 1, 3) := by decide +kernel
theorem dX3_waitingMen_29 : decode cX3_waitingMen 29 = .ok (.iinc 2 1, 3) := by decide +kernel
theorem dX3_waitingMen_32 : decode cX3_waitingMen 32 = .ok (.goto (-28), 3) := by decide +kernel
theorem dX3_waitingMen_35 : decode cX3_waitingMen 35 = .ok (.iload_n 1, 1) := by decide +kernel
theorem dX3_waitingMen_36 : decode cX3_waitingMen 36 = .ok (.ireturn, 1) := by decide +kernel
def fX3_waitingMen_4  : Nat → Nat → Int32 → Int32 → zV → Option (Int32 × zV)
  | 0 => fun _ _ _ _ => none
  | n + 1 => fun x0 x1 x2 v =>
    if (v (zrf x0 0) 1) ≤ x2 then
      some (x1, v)
    else
      zbind (fX7_isWaiting (zrf x0 1) x2 v) fun r_2 v_1 =>
      if r_2 = (0 : Int32) then
        (fX3_waitingMen_4 n) x0 x1 (x2 + (1 : Int32)) v_1
      else
        (fX3_waitingMen_4 n) x0 (x1 + (1 : Int32)) (x2 + (1 : Int32)) v_1
set_option maxRecDepth 4000 in
theorem jX3_waitingMen_4 (x : zCx) (G : zG) (F : zF x G cX3_waitingMen 3 RX3 3 122) (hr : x.2.2.2.2.2.2.2.2.1.sig.returnType = (Option.some FieldType.int)) (hk : x.2.2.2.2.2.2.2.2.1.locks = false) (r : Int32) (w : zV)  : ∀ (n : Nat) (x0 : Nat) (t0 : zty G x0 1 3) (x1 : Int32) (x2 : Int32) (v : zV), fX3_waitingMen_4 n x0 x1 x2 v = some (r, w) → zJ x G 3 (zQ x G (some (.int r)) w 0 0) 0 0 4 [(0, zr G x0), (1, .int x1), (2, .int x2)] [] v := by
  intro n
  induction n with
  | zero => intro x0 t0 x1 x2 v h; exact absurd h (by intro q; cases q)
  | succ n ih =>
    intro x0 t0 x1 x2 v h
    rw [fX3_waitingMen_4] at h
    dsimp only at h
    refine z_iload_n F dX3_waitingMen_4 rfl 2 rfl ?_
    refine z_aload_n F dX3_waitingMen_5 rfl 0 rfl ?_
    refine zg_3_0 F t0 wF_X3_15 dX3_waitingMen_6 ?_
    refine zg_0_1 F (zt_f tc_3_0 t0) wF_X3_23 dX3_waitingMen_9 ?_
    refine z_icmp_ge F 35 dX3_waitingMen_12 rfl (fun hc => ?_) (fun hc => ?_)
    · replace h := zif_t hc h
      refine z_iload_n F dX3_waitingMen_35 rfl 1 rfl ?_
      cases h
      exact z_reti F hr hk dX3_waitingMen_36
    · replace h := zif_f hc h
      refine z_aload_n F dX3_waitingMen_15 rfl 0 rfl ?_
      refine zg_3_1 F t0 wF_X3_19 dX3_waitingMen_16 ?_
      refine z_iload_n F dX3_waitingMen_19 rfl 2 rfl ?_
      obtain ⟨r_2, v_1, hq20, h⟩ := zbind_ex h
      refine z_callVi F [.int x2] [] (kX7_isWaiting x.2.1 G (zrf x0 1) (zt_f tc_3_1 t0) x2 v r_2 v_1 hq20) mI_X7_isWaiting (c := 7) rfl (zt_f tc_3_1 t0) wM_X3_29 mi_X7_isWaiting sl_X7_isWaiting dX3_waitingMen_20 rfl ⟨Nat.le_of_ble_eq_true rfl, Nat.le_of_ble_eq_true rfl⟩ rfl (Nat.le_of_ble_eq_true rfl) ⟨Nat.zero_le _, Nat.zero_le _⟩ ?_
      refine z_if_eq F 29 dX3_waitingMen_23 rfl (fun hc => ?_) (fun hc => ?_)
      · replace h := zif_t hc h
        refine z_iinc F [(2, .int (x2 + (1 : Int32))), (0, zr G x0), (1, .int x1)] dX3_waitingMen_29 2 rfl rfl (Nat.le_of_ble_eq_true rfl) rfl ?_
        refine z_goto F 4 dX3_waitingMen_32 rfl ?_
        refine z_ls [(0, zr G x0), (1, .int x1), (2, .int (x2 + (1 : Int32)))] [1, 2, 0] rfl ?_
        exact ih x0 t0 x1 (x2 + (1 : Int32)) v_1 h
      · replace h := zif_f hc h
        refine z_iinc F [(1, .int (x1 + (1 : Int32))), (0, zr G x0), (2, .int x2)] dX3_waitingMen_26 1 rfl rfl (Nat.le_of_ble_eq_true rfl) rfl ?_
        refine z_iinc F [(2, .int (x2 + (1 : Int32))), (1, .int (x1 + (1 : Int32))), (0, zr G x0)] dX3_waitingMen_29 2 rfl rfl (Nat.le_of_ble_eq_true rfl) rfl ?_
        refine z_goto F 4 dX3_waitingMen_32 rfl ?_
        refine z_ls [(0, zr G x0), (1, .int (x1 + (1 : Int32))), (2, .int (x2 + (1 : Int32)))] [2, 1, 0] rfl ?_
        exact ih x0 t0 (x1 + (1 : Int32)) (x2 + (1 : Int32)) v_1 h

def fX3_waitingMen (x0 : Nat) (v : zV) : Option (Int32 × zV) :=
  fX3_waitingMen_4  zFU x0 (0 : Int32) (0 : Int32) v
set_option maxRecDepth 4000 in
theorem kX3_waitingMen (l : Launch) (G : zG) (x0 : Nat) (t0 : zty G x0 1 3) (v : zV) (r : Int32) (w : zV) (h : fX3_waitingMen x0 v = some (r, w)) : zMet l yX3_waitingMen cX3_waitingMen 3 (Option.some FieldType.int) 3 122 0 0 [zr G x0] G v (some (.int r)) w := by
  refine zM_of (own := RX3) (by decide) rfl (Nat.le_of_ble_eq_true rfl) (fun x hl F hr hk hcs => ?_)
  subst hl
  refine z_ls [(0, zr G x0)] [0] rfl ?_
  unfold fX3_waitingMen at h
  refine z_iconst (y := (0 : Int32)) F dX3_waitingMen_0 rfl ?_
  refine z_istore_n F [(1, .int (0 : Int32)), (0, zr G x0)] dX3_waitingMen_1 rfl (Nat.le_of_ble_eq_true rfl) rfl ?_
  refine z_iconst (y := (0 : Int32)) F dX3_waitingMen_2 rfl ?_
  refine z_istore_n F [(2, .int (0 : Int32)), (1, .int (0 : Int32)), (0, zr G x0)] dX3_waitingMen_3 rfl (Nat.le_of_ble_eq_true rfl) rfl ?_
  refine z_ls [(0, zr G x0), (1, .int (0 : Int32)), (2, .int (0 : Int32))] [2, 1, 0] rfl ?_
  exact jX3_waitingMen_4 x G F hr hk r w   zFU x0 t0 (0 : Int32) (0 : Int32) v h

theorem dX3_worstEnemy_0 : decode cX3_worstEnemy 0 = .ok (.iconst (-1), 1) := by decide +kernel
theorem dX3_worstEnemy_1 : decode cX3_worstEnemy 1 = .ok (.istore_n 2, 1) := by decide +kernel
theorem dX3_worstEnemy_2 : decode cX3_worstEnemy 2 = .ok (.iconst (-1), 1) := by decide +kernel
theorem dX3_worstEnemy_3 : decode cX3_worstEnemy 3 = .ok (.istore_n 3, 1) := by decide +kernel
theorem dX3_worstEnemy_4 : decode cX3_worstEnemy 4 = .ok (.iconst 0, 1) := by decide +kernel
theorem dX3_worstEnemy_5 : decode cX3_worstEnemy 5 = .ok (.istore 4, 2) := by decide +kernel
theorem dX3_worstEnemy_7 : decode cX3_worstEnemy 7 = .ok (.iload 4, 2) := by decide +kernel
theorem dX3_worstEnemy_9 : decode cX3_worstEnemy 9 = .ok (.aload_n 0, 1) := by decide +kernel
theorem dX3_worstEnemy_10 : decode cX3_worstEnemy 10 = .ok (.getfield 15, 3) := by decide +kernel
theorem dX3_worstEnemy_13 : decode cX3_worstEnemy 13 = .ok (.getfield 23, 3) := by decide +kernel
theorem dX3_worstEnemy_16 : decode cX3_worstEnemy 16 = .ok (.if_icmp .ge 51, 3) := by decide +kernel
theorem dX3_worstEnemy_19 : decode cX3_worstEnemy 19 = .ok (.aload_n 0, 1) := by decide +kernel
theorem dX3_worstEnemy_20 : decode cX3_worstEnemy 20 = .ok (.getfield 15, 3) := by decide +kernel
theorem dX3_worstEnemy_23 : decode cX3_worstEnemy 23 = .ok (.iload_n 1, 1) := by decide +kernel
theorem dX3_worstEnemy_24 : decode cX3_worstEnemy 24 = .ok (.iload 4, 2) := by decide +kernel
theorem dX3_worstEnemy_26 : decode cX3_worstEnemy 26 = .ok (.invokevirtual 35, 3) := by decide +kernel
theorem dX3_worstEnemy_29 : decode cX3_worstEnemy 29 = .ok (.istore 5, 2) := by decide +kernel
theorem dX3_worstEnemy_31 : decode cX3_worstEnemy 31 = .ok (.iload 4, 2) := by decide +kernel
theorem dX3_worstEnemy_33 : decode cX3_worstEnemy 33 = .ok (.iload_n 1, 1) := by decide +kernel
theorem dX3_worstEnemy_34 : decode cX3_worstEnemy 34 = .ok (.if_icmp .eq 27, 3) := by decide +kernel
theorem dX3_worstEnemy_37 : decode cX3_worstEnemy 37 = .ok (.aload_n 0, 1) := by decide +kernel
theorem dX3_worstEnemy_38 : decode cX3_worstEnemy 38 = .ok (.getfield 19, 3) := by decide +kernel
theorem dX3_worstEnemy_41 : decode cX3_worstEnemy 41 = .ok (.iload 4, 2) := by decide +kernel
theorem dX3_worstEnemy_43 : decode cX3_worstEnemy 43 = .ok (.invokevirtual 39, 3) := by decide +kernel
theorem dX3_worstEnemy_46 : decode cX3_worstEnemy 46 = .ok (.ifCond .eq 15, 3) := by decide +kernel
theorem dX3_worstEnemy_49 : decode cX3_worstEnemy 49 = .ok (.iload 5, 2) := by decide +kernel
theorem dX3_worstEnemy_51 : decode cX3_worstEnemy 51 = .ok (.iload_n 3, 1) := by decide +kernel
theorem dX3_worstEnemy_52 : decode cX3_worstEnemy 52 = .ok (.if_icmp .le 9, 3) := by decide +kernel
theorem dX3_worstEnemy_55 : decode cX3_worstEnemy 55 = .ok (.iload 4, 2) := by decide +kernel
theorem dX3_worstEnemy_57 : decode cX3_worstEnemy 57 = .ok (.istore_n 2, 1) := by decide +kernel
theorem dX3_worstEnemy_58 : decode cX3_worstEnemy 58 = .ok (.iload 5, 2) := by decide +kernel
theorem dX3_worstEnemy_60 : decode cX3_worstEnemy 60 = .ok (.istore_n 3, 1) := by decide +kernel
theorem dX3_worstEnemy_61 : decode cX3_worstEnemy 61 = .ok (.iinc 4 1, 3) := by decide +kernel
theorem dX3_worstEnemy_64 : decode cX3_worstEnemy 64 = .ok (.goto (-57), 3) := by decide +kernel
theorem dX3_worstEnemy_67 : decode cX3_worstEnemy 67 = .ok (.iload_n 2, 1) := by decide +kernel
theorem dX3_worstEnemy_68 : decode cX3_worstEnemy 68 = .ok (.ireturn, 1) := by decide +kernel
def fX3_worstEnemy_7  : Nat → Nat → Int32 → Int32 → Int32 → Int32 → zV → Option (Int32 × zV)
  | 0 => fun _ _ _ _ _ _ => none
  | n + 1 => fun x0 x1 x2 x3 x4 v =>
    if (v (zrf x0 0) 1) ≤ x4 then
      some (x2, v)
    else
      zbind (fX0_differing (zrf x0 0) x1 x4 v) fun r_2 v_1 =>
      if x4 = x1 then
        (fX3_worstEnemy_7 n) x0 x1 x2 x3 (x4 + (1 : Int32)) v_1
      else
        zbind (fX7_isAlive (zrf x0 1) x4 v_1) fun r_4 v_3 =>
        if r_4 = (0 : Int32) then
          (fX3_worstEnemy_7 n) x0 x1 x2 x3 (x4 + (1 : Int32)) v_3
        else
          if r_2 ≤ x3 then
            (fX3_worstEnemy_7 n) x0 x1 x2 x3 (x4 + (1 : Int32)) v_3
          else
            (fX3_worstEnemy_7 n) x0 x1 x4 r_2 (x4 + (1 : Int32)) v_3
set_option maxRecDepth 4000 in
theorem jX3_worstEnemy_7 (x : zCx) (G : zG) (F : zF x G cX3_worstEnemy 6 RX3 3 124) (hr : x.2.2.2.2.2.2.2.2.1.sig.returnType = (Option.some FieldType.int)) (hk : x.2.2.2.2.2.2.2.2.1.locks = false) (r : Int32) (w : zV)  : ∀ (n : Nat) (x0 : Nat) (t0 : zty G x0 1 3) (x1 : Int32) (x2 : Int32) (x3 : Int32) (x4 : Int32) (v : zV), fX3_worstEnemy_7 n x0 x1 x2 x3 x4 v = some (r, w) → zJ x G 6 (zQ x G (some (.int r)) w 0 0) 0 0 7 [(0, zr G x0), (1, .int x1), (2, .int x2), (3, .int x3), (4, .int x4)] [] v := by
  intro n
  induction n with
  | zero => intro x0 t0 x1 x2 x3 x4 v h; exact absurd h (by intro q; cases q)
  | succ n ih =>
    intro x0 t0 x1 x2 x3 x4 v h
    rw [fX3_worstEnemy_7] at h
    dsimp only at h
    refine z_iload F dX3_worstEnemy_7 4 rfl ?_
    refine z_aload_n F dX3_worstEnemy_9 rfl 0 rfl ?_
    refine zg_3_0 F t0 wF_X3_15 dX3_worstEnemy_10 ?_
    refine zg_0_1 F (zt_f tc_3_0 t0) wF_X3_23 dX3_worstEnemy_13 ?_
    refine z_icmp_ge F 67 dX3_worstEnemy_16 rfl (fun hc => ?_) (fun hc => ?_)
    · replace h := zif_t hc h
      refine z_iload_n F dX3_worstEnemy_67 rfl 2 rfl ?_
      cases h
      exact z_reti F hr hk dX3_worstEnemy_68
    · replace h := zif_f hc h
      refine z_aload_n F dX3_worstEnemy_19 rfl 0 rfl ?_
      refine zg_3_0 F t0 wF_X3_15 dX3_worstEnemy_20 ?_
      refine z_iload_n F dX3_worstEnemy_23 rfl 1 rfl ?_
      refine z_iload F dX3_worstEnemy_24 4 rfl ?_
      obtain ⟨r_2, v_1, hq26, h⟩ := zbind_ex h
      refine z_callVi F [.int x1, .int x4] [] (kX0_differing x.2.1 G (zrf x0 0) (zt_f tc_3_0 t0) x1 x4 v r_2 v_1 hq26) mI_X0_differing (c := 0) rfl (zt_f tc_3_0 t0) wM_X3_35 mi_X0_differing sl_X0_differing dX3_worstEnemy_26 rfl ⟨Nat.le_of_ble_eq_true rfl, Nat.le_of_ble_eq_true rfl⟩ rfl (Nat.le_of_ble_eq_true rfl) ⟨Nat.zero_le _, Nat.zero_le _⟩ ?_
      refine z_istore (n := 0) F [(5, .int r_2), (0, zr G x0), (1, .int x1), (2, .int x2), (3, .int x3), (4, .int x4)] dX3_worstEnemy_29 (Nat.le_of_ble_eq_true rfl) rfl ?_
      refine z_iload F dX3_worstEnemy_31 5 rfl ?_
      refine z_iload_n F dX3_worstEnemy_33 rfl 2 rfl ?_
      refine z_icmp_eq F 61 dX3_worstEnemy_34 rfl (fun hc => ?_) (fun hc => ?_)
      · replace h := zif_t hc h
        refine z_iinc F [(4, .int (x4 + (1 : Int32))), (5, .int r_2), (0, zr G x0), (1, .int x1), (2, .int x2), (3, .int x3)] dX3_worstEnemy_61 5 rfl rfl (Nat.le_of_ble_eq_true rfl) rfl ?_
        refine z_goto F 7 dX3_worstEnemy_64 rfl ?_
        refine z_ls [(0, zr G x0), (1, .int x1), (2, .int x2), (3, .int x3), (4, .int (x4 + (1 : Int32)))] [2, 3, 4, 5, 0] rfl ?_
        exact ih x0 t0 x1 x2 x3 (x4 + (1 : Int32)) v_1 h
      · replace h := zif_f hc h
        refine z_aload_n F dX3_worstEnemy_37 rfl 1 rfl ?_
        refine zg_3_1 F t0 wF_X3_19 dX3_worstEnemy_38 ?_
        refine z_iload F dX3_worstEnemy_41 5 rfl ?_
        obtain ⟨r_4, v_3, hq43, h⟩ := zbind_ex h
        refine z_callVi F [.int x4] [] (kX7_isAlive x.2.1 G (zrf x0 1) (zt_f tc_3_1 t0) x4 v_1 r_4 v_3 hq43) mI_X7_isAlive (c := 7) rfl (zt_f tc_3_1 t0) wM_X3_39 mi_X7_isAlive sl_X7_isAlive dX3_worstEnemy_43 rfl ⟨Nat.le_of_ble_eq_true rfl, Nat.le_of_ble_eq_true rfl⟩ rfl (Nat.le_of_ble_eq_true rfl) ⟨Nat.zero_le _, Nat.zero_le _⟩ ?_
        refine z_if_eq F 61 dX3_worstEnemy_46 rfl (fun hc => ?_) (fun hc => ?_)
        · replace h := zif_t hc h
          refine z_iinc F [(4, .int (x4 + (1 : Int32))), (5, .int r_2), (0, zr G x0), (1, .int x1), (2, .int x2), (3, .int x3)] dX3_worstEnemy_61 5 rfl rfl (Nat.le_of_ble_eq_true rfl) rfl ?_
          refine z_goto F 7 dX3_worstEnemy_64 rfl ?_
          refine z_ls [(0, zr G x0), (1, .int x1), (2, .int x2), (3, .int x3), (4, .int (x4 + (1 : Int32)))] [2, 3, 4, 5, 0] rfl ?_
          exact ih x0 t0 x1 x2 x3 (x4 + (1 : Int32)) v_3 h
        · replace h := zif_f hc h
          refine z_iload F dX3_worstEnemy_49 0 rfl ?_
          refine z_iload_n F dX3_worstEnemy_51 rfl 4 rfl ?_
          refine z_icmp_le F 61 dX3_worstEnemy_52 rfl (fun hc => ?_) (fun hc => ?_)
          · replace h := zif_t hc h
            refine z_iinc F [(4, .int (x4 + (1 : Int32))), (5, .int r_2), (0, zr G x0), (1, .int x1), (2, .int x2), (3, .int x3)] dX3_worstEnemy_61 5 rfl rfl (Nat.le_of_ble_eq_true rfl) rfl ?_
            refine z_goto F 7 dX3_worstEnemy_64 rfl ?_
            refine z_ls [(0, zr G x0), (1, .int x1), (2, .int x2), (3, .int x3), (4, .int (x4 + (1 : Int32)))] [2, 3, 4, 5, 0] rfl ?_
            exact ih x0 t0 x1 x2 x3 (x4 + (1 : Int32)) v_3 h
          · replace h := zif_f hc h
            refine z_iload F dX3_worstEnemy_55 5 rfl ?_
            refine z_istore_n F [(2, .int x4), (5, .int r_2), (0, zr G x0), (1, .int x1), (3, .int x3), (4, .int x4)] dX3_worstEnemy_57 rfl (Nat.le_of_ble_eq_true rfl) rfl ?_
            refine z_iload F dX3_worstEnemy_58 1 rfl ?_
            refine z_istore_n F [(3, .int r_2), (2, .int x4), (5, .int r_2), (0, zr G x0), (1, .int x1), (4, .int x4)] dX3_worstEnemy_60 rfl (Nat.le_of_ble_eq_true rfl) rfl ?_
            refine z_iinc F [(4, .int (x4 + (1 : Int32))), (3, .int r_2), (2, .int x4), (5, .int r_2), (0, zr G x0), (1, .int x1)] dX3_worstEnemy_61 5 rfl rfl (Nat.le_of_ble_eq_true rfl) rfl ?_
            refine z_goto F 7 dX3_worstEnemy_64 rfl ?_
            refine z_ls [(0, zr G x0), (1, .int x1), (2, .int x4), (3, .int r_2), (4, .int (x4 + (1 : Int32)))] [4, 5, 2, 1, 0] rfl ?_
            exact ih x0 t0 x1 x4 r_2 (x4 + (1 : Int32)) v_3 h

def fX3_worstEnemy (x0 : Nat) (x1 : Int32) (v : zV) : Option (Int32 × zV) :=
  fX3_worstEnemy_7  zFU x0 x1 (-1 : Int32) (-1 : Int32) (0 : Int32) v
set_option maxRecDepth 4000 in
theorem kX3_worstEnemy (l : Launch) (G : zG) (x0 : Nat) (t0 : zty G x0 1 3) (x1 : Int32) (v : zV) (r : Int32) (w : zV) (h : fX3_worstEnemy x0 x1 v = some (r, w)) : zMet l yX3_worstEnemy cX3_worstEnemy 6 (Option.some FieldType.int) 3 124 0 0 [zr G x0, .int x1] G v (some (.int r)) w := by
  refine zM_of (own := RX3) (by decide) rfl (Nat.le_of_ble_eq_true rfl) (fun x hl F hr hk hcs => ?_)
  subst hl
  refine z_ls [(0, zr G x0), (1, .int x1)] [0, 1] rfl ?_
  unfold fX3_worstEnemy at h
  refine z_iconst (y := (-1 : Int32)) F dX3_worstEnemy_0 rfl ?_
  refine z_istore_n F [(2, .int (-1 : Int32)), (0, zr G x0), (1, .int x1)] dX3_worstEnemy_1 rfl (Nat.le_of_ble_eq_true rfl) rfl ?_
  refine z_iconst (y := (-1 : Int32)) F dX3_worstEnemy_2 rfl ?_
  refine z_istore_n F [(3, .int (-1 : Int32)), (2, .int (-1 : Int32)), (0, zr G x0), (1, .int x1)] dX3_worstEnemy_3 rfl (Nat.le_of_ble_eq_true rfl) rfl ?_
  refine z_iconst (y := (0 : Int32)) F dX3_worstEnemy_4 rfl ?_
  refine z_istore (n := 0) F [(4, .int (0 : Int32)), (3, .int (-1 : Int32)), (2, .int (-1 : Int32)), (0, zr G x0), (1, .int x1)] dX3_worstEnemy_5 (Nat.le_of_ble_eq_true rfl) rfl ?_
  refine z_ls [(0, zr G x0), (1, .int x1), (2, .int (-1 : Int32)), (3, .int (-1 : Int32)), (4, .int (0 : Int32))] [3, 4, 2, 1, 0] rfl ?_
  exact jX3_worstEnemy_7 x G F hr hk r w   zFU x0 t0 x1 (-1 : Int32) (-1 : Int32) (0 : Int32) v h

theorem dX3_ringFrom_0 : decode cX3_ringFrom 0 = .ok (.iload_n 1, 1) := by decide +kernel
theorem dX3_ringFrom_1 : decode cX3_ringFrom 1 = .ok (.istore_n 3, 1) := by decide +kernel
theorem dX3_ringFrom_2 : decode cX3_ringFrom 2 = .ok (.iconst 0, 1) := by decide +kernel
theorem dX3_ringFrom_3 : decode cX3_ringFrom 3 = .ok (.istore 4, 2) := by decide +kernel
theorem dX3_ringFrom_5 : decode cX3_ringFrom 5 = .ok (.iload 4, 2) := by decide +kernel
theorem dX3_ringFrom_7 : decode cX3_ringFrom 7 = .ok (.bipush 16, 2) := by decide +kernel
theorem dX3_ringFrom_9 : decode cX3_ringFrom 9 = .ok (.if_icmp .ge 20, 3) := by decide +kernel
theorem dX3_ringFrom_12 : decode cX3_ringFrom 12 = .ok (.iload_n 3, 1) := by decide +kernel
theorem dX3_ringFrom_13 : decode cX3_ringFrom 13 = .ok (.iconst (-1), 1) := by decide +kernel
theorem dX3_ringFrom_14 : decode cX3_ringFrom 14 = .ok (.if_icmp .eq 15, 3) := by decide +kernel
theorem dX3_ringFrom_17 : decode cX3_ringFrom 17 = .ok (.aload_n 0, 1) := by decide +kernel
theorem dX3_ringFrom_18 : decode cX3_ringFrom 18 = .ok (.iload_n 3, 1) := by decide +kernel
theorem dX3_ringFrom_19 : decode cX3_ringFrom 19 = .ok (.invokevirtual 42, 3) := by decide +kernel
theorem dX3_ringFrom_22 : decode cX3_ringFrom 22 = .ok (.istore_n 3, 1) := by decide +kernel
theorem dX3_ringFrom_23 : decode cX3_ringFrom 23 = .ok (.iinc 4 1, 3) := by decide +kernel
theorem dX3_ringFrom_26 : decode cX3_ringFrom 26 = .ok (.goto (-21), 3) := by decide +kernel
theorem dX3_ringFrom_29 : decode cX3_ringFrom 29 = .ok (.iload_n 3, 1) := by decide +kernel
theorem dX3_ringFrom_30 : decode cX3_ringFrom 30 = .ok (.iconst (-1), 1) := by decide +kernel
theorem dX3_ringFrom_31 : decode cX3_ringFrom 31 = .ok (.if_icmp .ne 13, 3) := by decide +kernel
theorem dX3_ringFrom_34 : decode cX3_ringFrom 34 = .ok (.iload_n 2, 1) := by decide +kernel
theorem dX3_ringFrom_35 : decode cX3_ringFrom 35 = .ok (.ifCond .ne 7, 3) := by decide +kernel
theorem dX3_ringFrom_38 : decode cX3_ringFrom 38 = .ok (.iconst 0, 1) := by decide +kernel
theorem dX3_ringFrom_39 : decode cX3_ringFrom 39 = .ok (.goto 4, 3) := by decide +kernel
theorem dX3_ringFrom_42 : decode cX3_ringFrom 42 = .ok (.iconst (-1), 1) := by decide +kernel
theorem dX3_ringFrom_43 : decode cX3_ringFrom 43 = .ok (.ireturn, 1) := by decide +kernel
theorem dX3_ringFrom_44 : decode cX3_ringFrom 44 = .ok (.iconst 1, 1) := by decide +kernel
theorem dX3_ringFrom_45 : decode cX3_ringFrom 45 = .ok (.istore 4, 2) := by decide +kernel
theorem dX3_ringFrom_47 : decode cX3_ringFrom 47 = .ok (.iload_n 3, 1) := by decide +kernel
theorem dX3_ringFrom_48 : decode cX3_ringFrom 48 = .ok (.istore 5, 2) := by decide +kernel
theorem dX3_ringFrom_50 : decode cX3_ringFrom 50 = .ok (.aload_n 0, 1) := by decide +kernel
theorem dX3_ringFrom_51 : decode cX3_ringFrom 51 = .ok (.iload_n 3, 1) := by decide +kernel
theorem dX3_ringFrom_52 : decode cX3_ringFrom 52 = .ok (.invokevirtual 42, 3) := by decide +kernel
theorem dX3_ringFrom_55 : decode cX3_ringFrom 55 = .ok (.istore 6, 2) := by decide +kernel
theorem dX3_ringFrom_57 : decode cX3_ringFrom 57 = .ok (.iconst 0, 1) := by decide +kernel
theorem dX3_ringFrom_58 : decode cX3_ringFrom 58 = .ok (.istore 7, 2) := by decide +kernel
theorem dX3_ringFrom_60 : decode cX3_ringFrom 60 = .ok (.iload 7, 2) := by decide +kernel
theorem dX3_ringFrom_62 : decode cX3_ringFrom 62 = .ok (.bipush 16, 2) := by decide +kernel
theorem dX3_ringFrom_64 : decode cX3_ringFrom 64 = .ok (.if_icmp .ge 41, 3) := by decide +kernel
theorem dX3_ringFrom_67 : decode cX3_ringFrom 67 = .ok (.iload 6, 2) := by decide +kernel
theorem dX3_ringFrom_69 : decode cX3_ringFrom 69 = .ok (.iload_n 3, 1) := by decide +kernel
theorem dX3_ringFrom_70 : decode cX3_ringFrom 70 = .ok (.if_icmp .eq 35, 3) := by decide +kernel
theorem dX3_ringFrom_73 : decode cX3_ringFrom 73 = .ok (.iload 6, 2) := by decide +kernel
theorem dX3_ringFrom_75 : decode cX3_ringFrom 75 = .ok (.iconst (-1), 1) := by decide +kernel
theorem dX3_ringFrom_76 : decode cX3_ringFrom 76 = .ok (.if_icmp .eq 29, 3) := by decide +kernel
theorem dX3_ringFrom_79 : decode cX3_ringFrom 79 = .ok (.iinc 4 1, 3) := by decide +kernel
theorem dX3_ringFrom_82 : decode cX3_ringFrom 82 = .ok (.iload 5, 2) := by decide +kernel
theorem dX3_ringFrom_84 : decode cX3_ringFrom 84 = .ok (.iload 6, 2) := by decide +kernel
theorem dX3_ringFrom_86 : decode cX3_ringFrom 86 = .ok (.invokestatic 46, 3) := by decide +kernel
theorem dX3_ringFrom_89 : decode cX3_ringFrom 89 = .ok (.istore 5, 2) := by decide +kernel
theorem dX3_ringFrom_91 : decode cX3_ringFrom 91 = .ok (.aload_n 0, 1) := by decide +kernel
theorem dX3_ringFrom_92 : decode cX3_ringFrom 92 = .ok (.iload 6, 2) := by decide +kernel
theorem dX3_ringFrom_94 : decode cX3_ringFrom 94 = .ok (.invokevirtual 42, 3) := by decide +kernel
theorem dX3_ringFrom_97 : decode cX3_ringFrom 97 = .ok (.istore 6, 2) := by decide +kernel
theorem dX3_ringFrom_99 : decode cX3_ringFrom 99 = .ok (.iinc 7 1, 3) := by decide +kernel
theorem dX3_ringFrom_102 : decode cX3_ringFrom 102 = .ok (.goto (-42), 3) := by decide +kernel
theorem dX3_ringFrom_105 : decode cX3_ringFrom 105 = .ok (.iload_n 2, 1) := by decide +kernel
theorem dX3_ringFrom_106 : decode cX3_ringFrom 106 = .ok (.ifCond .ne 8, 3) := by decide +kernel
theorem dX3_ringFrom_109 : decode cX3_ringFrom 109 = .ok (.iload 4, 2) := by decide +kernel
theorem dX3_ringFrom_111 : decode cX3_ringFrom 111 = .ok (.goto 5, 3) := by decide +kernel
theorem dX3_ringFrom_114 : decode cX3_ringFrom 114 = .ok (.iload 5, 2) := by decide +kernel
theorem dX3_ringFrom_116 : decode cX3_ringFrom 116 = .ok (.ireturn, 1) := by decide +kernel
def fX3_ringFrom_60  : Nat → Nat → Int32 → Int32 → Int32 → Int32 → Int32 → Int32 → zV → Option (Int32 × zV)
  | 0 => fun _ _ _ _ _ _ _ _ => none
  | n + 1 => fun x0 x2 x3 x4 x5 x6 x7 v =>
    if (16 : Int32) ≤ x7 then
      if x2 = (0 : Int32) then
        some (x4, v)
      else
        some (x5, v)
    else
      if x6 = x3 then
        if x2 = (0 : Int32) then
          some (x4, v)
        else
          some (x5, v)
      else
        if x6 = (-1 : Int32) then
          if x2 = (0 : Int32) then
            some (x4, v)
          else
            some (x5, v)
        else
          zbind (fX3_worstEnemy x0 x6 v) fun r_2 v_1 =>
          (fX3_ringFrom_60 n) x0 x2 x3 (x4 + (1 : Int32)) (zmin x5 x6) r_2 (x7 + (1 : Int32)) v_1
set_option maxRecDepth 4000 in
theorem jX3_ringFrom_60 (x : zCx) (G : zG) (F : zF x G cX3_ringFrom 8 RX3 4 149) (hr : x.2.2.2.2.2.2.2.2.1.sig.returnType = (Option.some FieldType.int)) (hk : x.2.2.2.2.2.2.2.2.1.locks = false) (r : Int32) (w : zV)  : ∀ (n : Nat) (x0 : Nat) (t0 : zty G x0 1 3) (x2 : Int32) (x3 : Int32) (x4 : Int32) (x5 : Int32) (x6 : Int32) (x7 : Int32) (v : zV), fX3_ringFrom_60 n x0 x2 x3 x4 x5 x6 x7 v = some (r, w) → zJ x G 8 (zQ x G (some (.int r)) w 0 0) 0 0 60 [(0, zr G x0), (2, .int x2), (3, .int x3), (4, .int x4), (5, .int x5), (6, .int x6), (7, .int x7)] [] v := by
  intro n
  induction n with
  | zero => intro x0 t0 x2 x3 x4 x5 x6 x7 v h; exact absurd h (by intro q; cases q)
  | succ n ih =>
    intro x0 t0 x2 x3 x4 x5 x6 x7 v h
    rw [fX3_ringFrom_60] at h
    dsimp only at h
    refine z_iload F dX3_ringFrom_60 6 rfl ?_
    refine z_bipush (y := (16 : Int32)) F dX3_ringFrom_62 rfl ?_
    refine z_icmp_ge F 105 dX3_ringFrom_64 rfl (fun hc => ?_) (fun hc => ?_)
    · replace h := zif_t hc h
      refine z_iload_n F dX3_ringFrom_105 rfl 1 rfl ?_
      refine z_if_ne F 114 dX3_ringFrom_106 rfl (fun hc => ?_) (fun hc => ?_)
      · replace h := zif_f hc h
        refine z_iload F dX3_ringFrom_114 4 rfl ?_
        cases h
        exact z_reti F hr hk dX3_ringFrom_116
      · replace h := zif_t hc h
        refine z_iload F dX3_ringFrom_109 3 rfl ?_
        refine z_goto F 116 dX3_ringFrom_111 rfl ?_
        cases h
        exact z_reti F hr hk dX3_ringFrom_116
    · replace h := zif_f hc h
      refine z_iload F dX3_ringFrom_67 5 rfl ?_
      refine z_iload_n F dX3_ringFrom_69 rfl 2 rfl ?_
      refine z_icmp_eq F 105 dX3_ringFrom_70 rfl (fun hc => ?_) (fun hc => ?_)
      · replace h := zif_t hc h
        refine z_iload_n F dX3_ringFrom_105 rfl 1 rfl ?_
        refine z_if_ne F 114 dX3_ringFrom_106 rfl (fun hc => ?_) (fun hc => ?_)
        · replace h := zif_f hc h
          refine z_iload F dX3_ringFrom_114 4 rfl ?_
          cases h
          exact z_reti F hr hk dX3_ringFrom_116
        · replace h := zif_t hc h
          refine z_iload F dX3_ringFrom_109 3 rfl ?_
          refine z_goto F 116 dX3_ringFrom_111 rfl ?_
          cases h
          exact z_reti F hr hk dX3_ringFrom_116
      · replace h := zif_f hc h
        refine z_iload F dX3_ringFrom_73 5 rfl ?_
        refine z_iconst (y := (-1 : Int32)) F dX3_ringFrom_75 rfl ?_
        refine z_icmp_eq F 105 dX3_ringFrom_76 rfl (fun hc => ?_) (fun hc => ?_)
        · replace h := zif_t hc h
          refine z_iload_n F dX3_ringFrom_105 rfl 1 rfl ?_
          refine z_if_ne F 114 dX3_ringFrom_106 rfl (fun hc => ?_) (fun hc => ?_)
          · replace h := zif_f hc h
            refine z_iload F dX3_ringFrom_114 4 rfl ?_
            cases h
            exact z_reti F hr hk dX3_ringFrom_116
          · replace h := zif_t hc h
            refine z_iload F dX3_ringFrom_109 3 rfl ?_
            refine z_goto F 116 dX3_ringFrom_111 rfl ?_
            cases h
            exact z_reti F hr hk dX3_ringFrom_116
        · replace h := zif_f hc h
          refine z_iinc F [(4, .int (x4 + (1 : Int32))), (0, zr G x0), (2, .int x2), (3, .int x3), (5, .int x5), (6, .int x6), (7, .int x7)] dX3_ringFrom_79 3 rfl rfl (Nat.le_of_ble_eq_true rfl) rfl ?_
          refine z_iload F dX3_ringFrom_82 4 rfl ?_
          refine z_iload F dX3_ringFrom_84 5 rfl ?_
          refine z_min F wM_X3_46 dX3_ringFrom_86 (Nat.le_of_ble_eq_true rfl) (Nat.le_of_ble_eq_true rfl) (Nat.le_of_ble_eq_true rfl) ⟨Nat.zero_le _, Nat.zero_le _⟩ ?_
          refine z_istore (n := 0) F [(5, .int (zmin x5 x6)), (4, .int (x4 + (1 : Int32))), (0, zr G x0), (2, .int x2), (3, .int x3), (6, .int x6), (7, .int x7)] dX3_ringFrom_89 (Nat.le_of_ble_eq_true rfl) rfl ?_
          refine z_aload_n F dX3_ringFrom_91 rfl 2 rfl ?_
          refine z_iload F dX3_ringFrom_92 5 rfl ?_
          obtain ⟨r_2, v_1, hq94, h⟩ := zbind_ex h
          refine z_callVi F [.int x6] [] (kX3_worstEnemy x.2.1 G x0 t0 x6 v r_2 v_1 hq94) mI_X3_worstEnemy (c := 3) rfl t0 wM_X3_42 mi_X3_worstEnemy sl_X3_worstEnemy dX3_ringFrom_94 rfl ⟨Nat.le_of_ble_eq_true rfl, Nat.le_of_ble_eq_true rfl⟩ rfl (Nat.le_of_ble_eq_true rfl) ⟨Nat.zero_le _, Nat.zero_le _⟩ ?_
          refine z_istore (n := 0) F [(6, .int r_2), (5, .int (zmin x5 x6)), (4, .int (x4 + (1 : Int32))), (0, zr G x0), (2, .int x2), (3, .int x3), (7, .int x7)] dX3_ringFrom_97 (Nat.le_of_ble_eq_true rfl) rfl ?_
          refine z_iinc F [(7, .int (x7 + (1 : Int32))), (6, .int r_2), (5, .int (zmin x5 x6)), (4, .int (x4 + (1 : Int32))), (0, zr G x0), (2, .int x2), (3, .int x3)] dX3_ringFrom_99 6 rfl rfl (Nat.le_of_ble_eq_true rfl) rfl ?_
          refine z_goto F 60 dX3_ringFrom_102 rfl ?_
          refine z_ls [(0, zr G x0), (2, .int x2), (3, .int x3), (4, .int (x4 + (1 : Int32))), (5, .int (zmin x5 x6)), (6, .int r_2), (7, .int (x7 + (1 : Int32)))] [4, 5, 6, 3, 2, 1, 0] rfl ?_
          exact ih x0 t0 x2 x3 (x4 + (1 : Int32)) (zmin x5 x6) r_2 (x7 + (1 : Int32)) v_1 h

def fX3_ringFrom_29  (x0 : Nat) (x2 : Int32) (x3 : Int32) (v : zV) : Option (Int32 × zV) :=
  if x3 = (-1 : Int32) then
    if x2 = (0 : Int32) then
      some ((0 : Int32), v)
    else
      some ((-1 : Int32), v)
  else
    zbind (fX3_worstEnemy x0 x3 v) fun r_2 v_1 =>
    fX3_ringFrom_60  zFU x0 x2 x3 (1 : Int32) x3 r_2 (0 : Int32) v_1
set_option maxRecDepth 4000 in
theorem jX3_ringFrom_29 (x : zCx) (G : zG) (F : zF x G cX3_ringFrom 8 RX3 4 149) (hr : x.2.2.2.2.2.2.2.2.1.sig.returnType = (Option.some FieldType.int)) (hk : x.2.2.2.2.2.2.2.2.1.locks = false) (r : Int32) (w : zV)  : ∀ (x0 : Nat) (t0 : zty G x0 1 3) (x2 : Int32) (x3 : Int32) (v : zV), fX3_ringFrom_29 x0 x2 x3 v = some (r, w) → zJ x G 8 (zQ x G (some (.int r)) w 0 0) 0 0 29 [(0, zr G x0), (2, .int x2), (3, .int x3)] [] v := by
  intro x0 t0 x2 x3 v h
  unfold fX3_ringFrom_29 at h
  refine z_iload_n F dX3_ringFrom_29 rfl 2 rfl ?_
  refine z_iconst (y := (-1 : Int32)) F dX3_ringFrom_30 rfl ?_
  refine z_icmp_ne F 44 dX3_ringFrom_31 rfl (fun hc => ?_) (fun hc => ?_)
  · replace h := zif_f hc h
    refine z_iconst (y := (1 : Int32)) F dX3_ringFrom_44 rfl ?_
    refine z_istore (n := 0) F [(4, .int (1 : Int32)), (0, zr G x0), (2, .int x2), (3, .int x3)] dX3_ringFrom_45 (Nat.le_of_ble_eq_true rfl) rfl ?_
    refine z_iload_n F dX3_ringFrom_47 rfl 3 rfl ?_
    refine z_istore (n := 0) F [(5, .int x3), (4, .int (1 : Int32)), (0, zr G x0), (2, .int x2), (3, .int x3)] dX3_ringFrom_48 (Nat.le_of_ble_eq_true rfl) rfl ?_
    refine z_aload_n F dX3_ringFrom_50 rfl 2 rfl ?_
    refine z_iload_n F dX3_ringFrom_51 rfl 4 rfl ?_
    obtain ⟨r_2, v_1, hq52, h⟩ := zbind_ex h
    refine z_callVi F [.int x3] [] (kX3_worstEnemy x.2.1 G x0 t0 x3 v r_2 v_1 hq52) mI_X3_worstEnemy (c := 3) rfl t0 wM_X3_42 mi_X3_worstEnemy sl_X3_worstEnemy dX3_ringFrom_52 rfl ⟨Nat.le_of_ble_eq_true rfl, Nat.le_of_ble_eq_true rfl⟩ rfl (Nat.le_of_ble_eq_true rfl) ⟨Nat.zero_le _, Nat.zero_le _⟩ ?_
    refine z_istore (n := 0) F [(6, .int r_2), (5, .int x3), (4, .int (1 : Int32)), (0, zr G x0), (2, .int x2), (3, .int x3)] dX3_ringFrom_55 (Nat.le_of_ble_eq_true rfl) rfl ?_
    refine z_iconst (y := (0 : Int32)) F dX3_ringFrom_57 rfl ?_
    refine z_istore (n := 0) F [(7, .int (0 : Int32)), (6, .int r_2), (5, .int x3), (4, .int (1 : Int32)), (0, zr G x0), (2, .int x2), (3, .int x3)] dX3_ringFrom_58 (Nat.le_of_ble_eq_true rfl) rfl ?_
    refine z_ls [(0, zr G x0), (2, .int x2), (3, .int x3), (4, .int (1 : Int32)), (5, .int x3), (6, .int r_2), (7, .int (0 : Int32))] [4, 5, 6, 3, 2, 1, 0] rfl ?_
    exact jX3_ringFrom_60 x G F hr hk r w   zFU x0 t0 x2 x3 (1 : Int32) x3 r_2 (0 : Int32) v_1 h
  · replace h := zif_t hc h
    refine z_iload_n F dX3_ringFrom_34 rfl 1 rfl ?_
    refine z_if_ne F 42 dX3_ringFrom_35 rfl (fun hc => ?_) (fun hc => ?_)
    · replace h := zif_f hc h
      refine z_iconst (y := (-1 : Int32)) F dX3_ringFrom_42 rfl ?_
      cases h
      exact z_reti F hr hk dX3_ringFrom_43
    · replace h := zif_t hc h
      refine z_iconst (y := (0 : Int32)) F dX3_ringFrom_38 rfl ?_
      refine z_goto F 43 dX3_ringFrom_39 rfl ?_
      cases h
      exact z_reti F hr hk dX3_ringFrom_43

def fX3_ringFrom_5  : Nat → Nat → Int32 → Int32 → Int32 → zV → Option (Int32 × zV)
  | 0 => fun _ _ _ _ _ => none
  | n + 1 => fun x0 x2 x3 x4 v =>
    if (16 : Int32) ≤ x4 then
      fX3_ringFrom_29  x0 x2 x3 v
    else
      if x3 = (-1 : Int32) then
        fX3_ringFrom_29  x0 x2 x3 v
      else
        zbind (fX3_worstEnemy x0 x3 v) fun r_2 v_1 =>
        (fX3_ringFrom_5 n) x0 x2 r_2 (x4 + (1 : Int32)) v_1
set_option maxRecDepth 4000 in
theorem jX3_ringFrom_5 (x : zCx) (G : zG) (F : zF x G cX3_ringFrom 8 RX3 4 149) (hr : x.2.2.2.2.2.2.2.2.1.sig.returnType = (Option.some FieldType.int)) (hk : x.2.2.2.2.2.2.2.2.1.locks = false) (r : Int32) (w : zV)  : ∀ (n : Nat) (x0 : Nat) (t0 : zty G x0 1 3) (x2 : Int32) (x3 : Int32) (x4 : Int32) (v : zV), fX3_ringFrom_5 n x0 x2 x3 x4 v = some (r, w) → zJ x G 8 (zQ x G (some (.int r)) w 0 0) 0 0 5 [(0, zr G x0), (2, .int x2), (3, .int x3), (4, .int x4)] [] v := by
  intro n
  induction n with
  | zero => intro x0 t0 x2 x3 x4 v h; exact absurd h (by intro q; cases q)
  | succ n ih =>
    intro x0 t0 x2 x3 x4 v h
    rw [fX3_ringFrom_5] at h
    dsimp only at h
    refine z_iload F dX3_ringFrom_5 3 rfl ?_
    refine z_bipush (y := (16 : Int32)) F dX3_ringFrom_7 rfl ?_
    refine z_icmp_ge F 29 dX3_ringFrom_9 rfl (fun hc => ?_) (fun hc => ?_)
    · replace h := zif_t hc h
      refine z_ls [(0, zr G x0), (2, .int x2), (3, .int x3)] [0, 1, 2] rfl ?_
      exact jX3_ringFrom_29 x G F hr hk r w   x0 t0 x2 x3 v h
    · replace h := zif_f hc h
      refine z_iload_n F dX3_ringFrom_12 rfl 2 rfl ?_
      refine z_iconst (y := (-1 : Int32)) F dX3_ringFrom_13 rfl ?_
      refine z_icmp_eq F 29 dX3_ringFrom_14 rfl (fun hc => ?_) (fun hc => ?_)
      · replace h := zif_t hc h
        refine z_ls [(0, zr G x0), (2, .int x2), (3, .int x3)] [0, 1, 2] rfl ?_
        exact jX3_ringFrom_29 x G F hr hk r w   x0 t0 x2 x3 v h
      · replace h := zif_f hc h
        refine z_aload_n F dX3_ringFrom_17 rfl 0 rfl ?_
        refine z_iload_n F dX3_ringFrom_18 rfl 2 rfl ?_
        obtain ⟨r_2, v_1, hq19, h⟩ := zbind_ex h
        refine z_callVi F [.int x3] [] (kX3_worstEnemy x.2.1 G x0 t0 x3 v r_2 v_1 hq19) mI_X3_worstEnemy (c := 3) rfl t0 wM_X3_42 mi_X3_worstEnemy sl_X3_worstEnemy dX3_ringFrom_19 rfl ⟨Nat.le_of_ble_eq_true rfl, Nat.le_of_ble_eq_true rfl⟩ rfl (Nat.le_of_ble_eq_true rfl) ⟨Nat.zero_le _, Nat.zero_le _⟩ ?_
        refine z_istore_n F [(3, .int r_2), (0, zr G x0), (2, .int x2), (4, .int x4)] dX3_ringFrom_22 rfl (Nat.le_of_ble_eq_true rfl) rfl ?_
        refine z_iinc F [(4, .int (x4 + (1 : Int32))), (3, .int r_2), (0, zr G x0), (2, .int x2)] dX3_ringFrom_23 3 rfl rfl (Nat.le_of_ble_eq_true rfl) rfl ?_
        refine z_goto F 5 dX3_ringFrom_26 rfl ?_
        refine z_ls [(0, zr G x0), (2, .int x2), (3, .int r_2), (4, .int (x4 + (1 : Int32)))] [2, 3, 1, 0] rfl ?_
        exact ih x0 t0 x2 r_2 (x4 + (1 : Int32)) v_1 h

def fX3_ringFrom (x0 : Nat) (x1 : Int32) (x2 : Int32) (v : zV) : Option (Int32 × zV) :=
  fX3_ringFrom_5  zFU x0 x2 x1 (0 : Int32) v
set_option maxRecDepth 4000 in
theorem kX3_ringFrom (l : Launch) (G : zG) (x0 : Nat) (t0 : zty G x0 1 3) (x1 : Int32) (x2 : Int32) (v : zV) (r : Int32) (w : zV) (h : fX3_ringFrom x0 x1 x2 v = some (r, w)) : zMet l yX3_ringFrom cX3_ringFrom 8 (Option.some FieldType.int) 4 149 0 0 [zr G x0, .int x1, .int x2] G v (some (.int r)) w := by
  refine zM_of (own := RX3) (by decide) rfl (Nat.le_of_ble_eq_true rfl) (fun x hl F hr hk hcs => ?_)
  subst hl
  refine z_ls [(0, zr G x0), (1, .int x1), (2, .int x2)] [0, 1, 2] rfl ?_
  unfold fX3_ringFrom at h
  refine z_iload_n F dX3_ringFrom_0 rfl 1 rfl ?_
  refine z_istore_n F [(3, .int x1), (0, zr G x0), (1, .int x1), (2, .int x2)] dX3_ringFrom_1 rfl (Nat.le_of_ble_eq_true rfl) rfl ?_
  refine z_iconst (y := (0 : Int32)) F dX3_ringFrom_2 rfl ?_
  refine z_istore (n := 0) F [(4, .int (0 : Int32)), (3, .int x1), (0, zr G x0), (1, .int x1), (2, .int x2)] dX3_ringFrom_3 (Nat.le_of_ble_eq_true rfl) rfl ?_
  refine z_ls [(0, zr G x0), (2, .int x2), (3, .int x1), (4, .int (0 : Int32))] [2, 4, 1, 0] rfl ?_
  exact jX3_ringFrom_5 x G F hr hk r w   zFU x0 t0 x2 x1 (0 : Int32) v h

theorem dX3_comesAgain_0 : decode cX3_comesAgain 0 = .ok (.iload_n 1, 1) := by decide +kernel
theorem dX3_comesAgain_1 : decode cX3_comesAgain 1 = .ok (.istore_n 2, 1) := by decide +kernel
theorem dX3_comesAgain_2 : decode cX3_comesAgain 2 = .ok (.iconst 0, 1) := by decide +kernel
theorem dX3_comesAgain_3 : decode cX3_comesAgain 3 = .ok (.istore_n 3, 1) := by decide +kernel
theorem dX3_comesAgain_4 : decode cX3_comesAgain 4 = .ok (.iload_n 3, 1) := by decide +kernel
theorem dX3_comesAgain_5 : decode cX3_comesAgain 5 = .ok (.bipush 16, 2) := by decide +kernel
theorem dX3_comesAgain_7 : decode cX3_comesAgain 7 = .ok (.if_icmp .ge 27, 3) := by decide +kernel
theorem dX3_comesAgain_10 : decode cX3_comesAgain 10 = .ok (.iload_n 2, 1) := by decide +kernel
theorem dX3_comesAgain_11 : decode cX3_comesAgain 11 = .ok (.iconst (-1), 1) := by decide +kernel
theorem dX3_comesAgain_12 : decode cX3_comesAgain 12 = .ok (.if_icmp .eq 22, 3) := by decide +kernel
theorem dX3_comesAgain_15 : decode cX3_comesAgain 15 = .ok (.aload_n 0, 1) := by decide +kernel
theorem dX3_comesAgain_16 : decode cX3_comesAgain 16 = .ok (.iload_n 2, 1) := by decide +kernel
theorem dX3_comesAgain_17 : decode cX3_comesAgain 17 = .ok (.invokevirtual 42, 3) := by decide +kernel
theorem dX3_comesAgain_20 : decode cX3_comesAgain 20 = .ok (.istore_n 2, 1) := by decide +kernel
theorem dX3_comesAgain_21 : decode cX3_comesAgain 21 = .ok (.iload_n 2, 1) := by decide +kernel
theorem dX3_comesAgain_22 : decode cX3_comesAgain 22 = .ok (.iload_n 1, 1) := by decide +kernel
theorem dX3_comesAgain_23 : decode cX3_comesAgain 23 = .ok (.if_icmp .ne 5, 3) := by decide +kernel
theorem dX3_comesAgain_26 : decode cX3_comesAgain 26 = .ok (.iconst 1, 1) := by decide +kernel
theorem dX3_comesAgain_27 : decode cX3_comesAgain 27 = .ok (.ireturn, 1) := by decide +kernel
theorem dX3_comesAgain_28 : decode cX3_comesAgain 28 = .ok (.iinc 3 1, 3) := by decide +kernel
theorem dX3_comesAgain_31 : decode cX3_comesAgain 31 = .ok (.goto (-27), 3) := by decide +kernel
theorem dX3_comesAgain_34 : decode cX3_comesAgain 34 = .ok (.iconst 0, 1) := by decide +kernel
theorem dX3_comesAgain_35 : decode cX3_comesAgain 35 = .ok (.ireturn, 1) := by decide +kernel
def fX3_comesAgain_4  : Nat → Nat → Int32 → Int32 → Int32 → zV → Option (Int32 × zV)
  | 0 => fun _ _ _ _ _ => none
  | n + 1 => fun x0 x1 x2 x3 v =>
    if (16 : Int32) ≤ x3 then
      some ((0 : Int32), v)
    else
      if x2 = (-1 : Int32) then
        some ((0 : Int32), v)
      else
        zbind (fX3_worstEnemy x0 x2 v) fun r_2 v_1 =>
        if r_2 = x1 then
          some ((1 : Int32), v_1)
        else
          (fX3_comesAgain_4 n) x0 x1 r_2 (x3 + (1 : Int32)) v_1
set_option maxRecDepth 4000 in
theorem jX3_comesAgain_4 (x : zCx) (G : zG) (F : zF x G cX3_comesAgain 4 RX3 4 149) (hr : x.2.2.2.2.2.2.2.2.1.sig.returnType = (Option.some FieldType.boolean)) (hk : x.2.2.2.2.2.2.2.2.1.locks = false) (r : Int32) (w : zV)  : ∀ (n : Nat) (x0 : Nat) (t0 : zty G x0 1 3) (x1 : Int32) (x2 : Int32) (x3 : Int32) (v : zV), fX3_comesAgain_4 n x0 x1 x2 x3 v = some (r, w) → zJ x G 4 (zQ x G (some (.int r)) w 0 0) 0 0 4 [(0, zr G x0), (1, .int x1), (2, .int x2), (3, .int x3)] [] v := by
  intro n
  induction n with
  | zero => intro x0 t0 x1 x2 x3 v h; exact absurd h (by intro q; cases q)
  | succ n ih =>
    intro x0 t0 x1 x2 x3 v h
    rw [fX3_comesAgain_4] at h
    dsimp only at h
    refine z_iload_n F dX3_comesAgain_4 rfl 3 rfl ?_
    refine z_bipush (y := (16 : Int32)) F dX3_comesAgain_5 rfl ?_
    refine z_icmp_ge F 34 dX3_comesAgain_7 rfl (fun hc => ?_) (fun hc => ?_)
    · replace h := zif_t hc h
      refine z_iconst (y := (0 : Int32)) F dX3_comesAgain_34 rfl ?_
      cases h
      exact z_retz F hr hk rfl dX3_comesAgain_35
    · replace h := zif_f hc h
      refine z_iload_n F dX3_comesAgain_10 rfl 2 rfl ?_
      refine z_iconst (y := (-1 : Int32)) F dX3_comesAgain_11 rfl ?_
      refine z_icmp_eq F 34 dX3_comesAgain_12 rfl (fun hc => ?_) (fun hc => ?_)
      · replace h := zif_t hc h
        refine z_iconst (y := (0 : Int32)) F dX3_comesAgain_34 rfl ?_
        cases h
        exact z_retz F hr hk rfl dX3_comesAgain_35
      · replace h := zif_f hc h
        refine z_aload_n F dX3_comesAgain_15 rfl 0 rfl ?_
        refine z_iload_n F dX3_comesAgain_16 rfl 2 rfl ?_
        obtain ⟨r_2, v_1, hq17, h⟩ := zbind_ex h
        refine z_callVi F [.int x2] [] (kX3_worstEnemy x.2.1 G x0 t0 x2 v r_2 v_1 hq17) mI_X3_worstEnemy (c := 3) rfl t0 wM_X3_42 mi_X3_worstEnemy sl_X3_worstEnemy dX3_comesAgain_17 rfl ⟨Nat.le_of_ble_eq_true rfl, Nat.le_of_ble_eq_true rfl⟩ rfl (Nat.le_of_ble_eq_true rfl) ⟨Nat.zero_le _, Nat.zero_le _⟩ ?_
        refine z_istore_n F [(2, .int r_2), (0, zr G x0), (1, .int x1), (3, .int x3)] dX3_comesAgain_20 rfl (Nat.le_of_ble_eq_true rfl) rfl ?_
        refine z_iload_n F dX3_comesAgain_21 rfl 0 rfl ?_
        refine z_iload_n F dX3_comesAgain_22 rfl 2 rfl ?_
        refine z_icmp_ne F 28 dX3_comesAgain_23 rfl (fun hc => ?_) (fun hc => ?_)
        · replace h := zif_f hc h
          refine z_iinc F [(3, .int (x3 + (1 : Int32))), (2, .int r_2), (0, zr G x0), (1, .int x1)] dX3_comesAgain_28 3 rfl rfl (Nat.le_of_ble_eq_true rfl) rfl ?_
          refine z_goto F 4 dX3_comesAgain_31 rfl ?_
          refine z_ls [(0, zr G x0), (1, .int x1), (2, .int r_2), (3, .int (x3 + (1 : Int32)))] [2, 3, 1, 0] rfl ?_
          exact ih x0 t0 x1 r_2 (x3 + (1 : Int32)) v_1 h
        · replace h := zif_t hc h
          refine z_iconst (y := (1 : Int32)) F dX3_comesAgain_26 rfl ?_
          cases h
          exact z_retz F hr hk rfl dX3_comesAgain_27

def fX3_comesAgain (x0 : Nat) (x1 : Int32) (v : zV) : Option (Int32 × zV) :=
  fX3_comesAgain_4  zFU x0 x1 x1 (0 : Int32) v
set_option maxRecDepth 4000 in
theorem kX3_comesAgain (l : Launch) (G : zG) (x0 : Nat) (t0 : zty G x0 1 3) (x1 : Int32) (v : zV) (r : Int32) (w : zV) (h : fX3_comesAgain x0 x1 v = some (r, w)) : zMet l yX3_comesAgain cX3_comesAgain 4 (Option.some FieldType.boolean) 4 149 0 0 [zr G x0, .int x1] G v (some (.int r)) w := by
  refine zM_of (own := RX3) (by decide) rfl (Nat.le_of_ble_eq_true rfl) (fun x hl F hr hk hcs => ?_)
  subst hl
  refine z_ls [(0, zr G x0), (1, .int x1)] [0, 1] rfl ?_
  unfold fX3_comesAgain at h
  refine z_iload_n F dX3_comesAgain_0 rfl 1 rfl ?_
  refine z_istore_n F [(2, .int x1), (0, zr G x0), (1, .int x1)] dX3_comesAgain_1 rfl (Nat.le_of_ble_eq_true rfl) rfl ?_
  refine z_iconst (y := (0 : Int32)) F dX3_comesAgain_2 rfl ?_
  refine z_istore_n F [(3, .int (0 : Int32)), (2, .int x1), (0, zr G x0), (1, .int x1)] dX3_comesAgain_3 rfl (Nat.le_of_ble_eq_true rfl) rfl ?_
  refine z_ls [(0, zr G x0), (1, .int x1), (2, .int x1), (3, .int (0 : Int32))] [2, 3, 1, 0] rfl ?_
  exact jX3_comesAgain_4 x G F hr hk r w   zFU x0 t0 x1 x1 (0 : Int32) v h

theorem dX3_ringedMen_0 : decode cX3_ringedMen 0 = .ok (.iconst 0, 1) := by decide +kernel
theorem dX3_ringedMen_1 : decode cX3_ringedMen 1 = .ok (.istore_n 1, 1) := by decide +kernel
theorem dX3_ringedMen_2 : decode cX3_ringedMen 2 = .ok (.iconst 0, 1) := by decide +kernel
theorem dX3_ringedMen_3 : decode cX3_ringedMen 3 = .ok (.istore_n 2, 1) := by decide +kernel
theorem dX3_ringedMen_4 : decode cX3_ringedMen 4 = .ok (.iload_n 2, 1) := by decide +kernel
theorem dX3_ringedMen_5 : decode cX3_ringedMen 5 = .ok (.aload_n 0, 1) := by decide +kernel
theorem dX3_ringedMen_6 : decode cX3_ringedMen 6 = .ok (.getfield 15, 3) := by decide +kernel
theorem dX3_ringedMen_9 : decode cX3_ringedMen 9 = .ok (.getfield 23, 3) := by decide +kernel
theorem dX3_ringedMen_12 : decode cX3_ringedMen 12 = .ok (.if_icmp .ge 23, 3) := by decide +kernel
theorem dX3_ringedMen_15 : decode cX3_ringedMen 15 = .ok (.aload_n 0, 1) := by decide +kernel
theorem dX3_ringedMen_16 : decode cX3_ringedMen 16 = .ok (.iload_n 2, 1) := by decide +kernel
theorem dX3_ringedMen_17 : decode cX3_ringedMen 17 = .ok (.invokevirtual 51, 3) := by decide +kernel
theorem dX3_ringedMen_20 : decode cX3_ringedMen 20 = .ok (.ifCond .eq 9, 3) := by decide +kernel
theorem dX3_ringedMen_23 : decode cX3_ringedMen 23 = .ok (.iload_n 1, 1) := by decide +kernel
theorem dX3_ringedMen_24 : decode cX3_ringedMen 24 = .ok (.iconst 1, 1) := by decide +kernel
theorem dX3_ringedMen_25 : decode cX3_ringedMen 25 = .ok (.iload_n 2, 1) := by decide +kernel
theorem dX3_ringedMen_26 : decode cX3_ringedMen 26 = .ok (.ishl, 1) := by decide +kernel
theorem dX3_ringedMen_27 : decode cX3_ringedMen 27 = .ok (.ior, 1) := by decide +kernel
theorem dX3_ringedMen_28 : decode cX3_ringedMen 28 = .ok (.istore_n 1, 1) := by decide +kernel
theorem dX3_ringedMen_29 : decode cX3_ringedMen 29 = .ok (.iinc 2 1, 3) := by decide +kernel
theorem dX3_ringedMen_32 : decode cX3_ringedMen 32 = .ok (.goto (-28), 3) := by decide +kernel
theorem dX3_ringedMen_35 : decode cX3_ringedMen 35 = .ok (.iload_n 1, 1) := by decide +kernel
theorem dX3_ringedMen_36 : decode cX3_ringedMen 36 = .ok (.ireturn, 1) := by decide +kernel
def fX3_ringedMen_4  : Nat → Nat → Int32 → Int32 → zV → Option (Int32 × zV)
  | 0 => fun _ _ _ _ => none
  | n + 1 => fun x0 x1 x2 v =>
    if (v (zrf x0 0) 1) ≤ x2 then
      some (x1, v)
    else
      zbind (fX3_comesAgain x0 x2 v) fun r_2 v_1 =>
      if r_2 = (0 : Int32) then
        (fX3_ringedMen_4 n) x0 x1 (x2 + (1 : Int32)) v_1
      else
        (fX3_ringedMen_4 n) x0 (x1 ||| ((1 : Int32) <<< (x2 &&& 31))) (x2 + (1 : Int32)) v_1
set_option maxRecDepth 4000 in
theorem jX3_ringedMen_4 (x : zCx) (G : zG) (F : zF x G cX3_ringedMen 3 RX3 5 172) (hr : x.2.2.2.2.2.2.2.2.1.sig.returnType = (Option.some FieldType.int)) (hk : x.2.2.2.2.2.2.2.2.1.locks = false) (r : Int32) (w : zV)  : ∀ (n : Nat) (x0 : Nat) (t0 : zty G x0 1 3) (x1 : Int32) (x2 : Int32) (v : zV), fX3_ringedMen_4 n x0 x1 x2 v = some (r, w) → zJ x G 3 (zQ x G (some (.int r)) w 0 0) 0 0 4 [(0, zr G x0), (1, .int x1), (2, .int x2)] [] v := by
  intro n
  induction n with
  | zero => intro x0 t0 x1 x2 v h; exact absurd h (by intro q; cases q)
  | succ n ih =>
    intro x0 t0 x1 x2 v h
    rw [fX3_ringedMen_4] at h
    dsimp only at h
    refine z_iload_n F dX3_ringedMen_4 rfl 2 rfl ?_
    refine z_aload_n F dX3_ringedMen_5 rfl 0 rfl ?_
    refine zg_3_0 F t0 wF_X3_15 dX3_ringedMen_6 ?_
    refine zg_0_1 F (zt_f tc_3_0 t0) wF_X3_23 dX3_ringedMen_9 ?_
    refine z_icmp_ge F 35 dX3_ringedMen_12 rfl (fun hc => ?_) (fun hc => ?_)
    · replace h := zif_t hc h
      refine z_iload_n F dX3_ringedMen_35 rfl 1 rfl ?_
      cases h
      exact z_reti F hr hk dX3_ringedMen_36
    · replace h := zif_f hc h
      refine z_aload_n F dX3_ringedMen_15 rfl 0 rfl ?_
      refine z_iload_n F dX3_ringedMen_16 rfl 2 rfl ?_
      obtain ⟨r_2, v_1, hq17, h⟩ := zbind_ex h
      refine z_callVi F [.int x2] [] (kX3_comesAgain x.2.1 G x0 t0 x2 v r_2 v_1 hq17) mI_X3_comesAgain (c := 3) rfl t0 wM_X3_51 mi_X3_comesAgain sl_X3_comesAgain dX3_ringedMen_17 rfl ⟨Nat.le_of_ble_eq_true rfl, Nat.le_of_ble_eq_true rfl⟩ rfl (Nat.le_of_ble_eq_true rfl) ⟨Nat.zero_le _, Nat.zero_le _⟩ ?_
      refine z_if_eq F 29 dX3_ringedMen_20 rfl (fun hc => ?_) (fun hc => ?_)
      · replace h := zif_t hc h
        refine z_iinc F [(2, .int (x2 + (1 : Int32))), (0, zr G x0), (1, .int x1)] dX3_ringedMen_29 2 rfl rfl (Nat.le_of_ble_eq_true rfl) rfl ?_
        refine z_goto F 4 dX3_ringedMen_32 rfl ?_
        refine z_ls [(0, zr G x0), (1, .int x1), (2, .int (x2 + (1 : Int32)))] [1, 2, 0] rfl ?_
        exact ih x0 t0 x1 (x2 + (1 : Int32)) v_1 h
      · replace h := zif_f hc h
        refine z_iload_n F dX3_ringedMen_23 rfl 1 rfl ?_
        refine z_iconst (y := (1 : Int32)) F dX3_ringedMen_24 rfl ?_
        refine z_iload_n F dX3_ringedMen_25 rfl 2 rfl ?_
        refine z_ishl F dX3_ringedMen_26 ?_
        refine z_ior F dX3_ringedMen_27 ?_
        refine z_istore_n F [(1, .int (x1 ||| ((1 : Int32) <<< (x2 &&& 31)))), (0, zr G x0), (2, .int x2)] dX3_ringedMen_28 rfl (Nat.le_of_ble_eq_true rfl) rfl ?_
        refine z_iinc F [(2, .int (x2 + (1 : Int32))), (1, .int (x1 ||| ((1 : Int32) <<< (x2 &&& 31)))), (0, zr G x0)] dX3_ringedMen_29 2 rfl rfl (Nat.le_of_ble_eq_true rfl) rfl ?_
        refine z_goto F 4 dX3_ringedMen_32 rfl ?_
        refine z_ls [(0, zr G x0), (1, .int (x1 ||| ((1 : Int32) <<< (x2 &&& 31)))), (2, .int (x2 + (1 : Int32)))] [2, 1, 0] rfl ?_
        exact ih x0 t0 (x1 ||| ((1 : Int32) <<< (x2 &&& 31))) (x2 + (1 : Int32)) v_1 h

def fX3_ringedMen (x0 : Nat) (v : zV) : Option (Int32 × zV) :=
  fX3_ringedMen_4  zFU x0 (0 : Int32) (0 : Int32) v
set_option maxRecDepth 4000 in
theorem kX3_ringedMen (l : Launch) (G : zG) (x0 : Nat) (t0 : zty G x0 1 3) (v : zV) (r : Int32) (w : zV) (h : fX3_ringedMen x0 v = some (r, w)) : zMet l yX3_ringedMen cX3_ringedMen 3 (Option.some FieldType.int) 5 172 0 0 [zr G x0] G v (some (.int r)) w := by
  refine zM_of (own := RX3) (by decide) rfl (Nat.le_of_ble_eq_true rfl) (fun x hl F hr hk hcs => ?_)
  subst hl
  refine z_ls [(0, zr G x0)] [0] rfl ?_
  unfold fX3_ringedMen at h
  refine z_iconst (y := (0 : Int32)) F dX3_ringedMen_0 rfl ?_
  refine z_istore_n F [(1, .int (0 : Int32)), (0, zr G x0)] dX3_ringedMen_1 rfl (Nat.le_of_ble_eq_true rfl) rfl ?_
  refine z_iconst (y := (0 : Int32)) F dX3_ringedMen_2 rfl ?_
  refine z_istore_n F [(2, .int (0 : Int32)), (1, .int (0 : Int32)), (0, zr G x0)] dX3_ringedMen_3 rfl (Nat.le_of_ble_eq_true rfl) rfl ?_
  refine z_ls [(0, zr G x0), (1, .int (0 : Int32)), (2, .int (0 : Int32))] [2, 1, 0] rfl ?_
  exact jX3_ringedMen_4 x G F hr hk r w   zFU x0 t0 (0 : Int32) (0 : Int32) v h

theorem dX3_sideOnChair_0 : decode cX3_sideOnChair 0 = .ok (.aload_n 0, 1) := by decide +kernel
theorem dX3_sideOnChair_1 : decode cX3_sideOnChair 1 = .ok (.getfield 15, 3) := by decide +kernel
theorem dX3_sideOnChair_4 : decode cX3_sideOnChair 4 = .ok (.aload_n 0, 1) := by decide +kernel
theorem dX3_sideOnChair_5 : decode cX3_sideOnChair 5 = .ok (.getfield 19, 3) := by decide +kernel
theorem dX3_sideOnChair_8 : decode cX3_sideOnChair 8 = .ok (.iload_n 1, 1) := by decide +kernel
theorem dX3_sideOnChair_9 : decode cX3_sideOnChair 9 = .ok (.invokevirtual 54, 3) := by decide +kernel
theorem dX3_sideOnChair_12 : decode cX3_sideOnChair 12 = .ok (.iload_n 2, 1) := by decide +kernel
theorem dX3_sideOnChair_13 : decode cX3_sideOnChair 13 = .ok (.invokevirtual 57, 3) := by decide +kernel
theorem dX3_sideOnChair_16 : decode cX3_sideOnChair 16 = .ok (.ireturn, 1) := by decide +kernel
def fX3_sideOnChair (x0 : Nat) (x1 : Int32) (x2 : Int32) (v : zV) : Option (Int32 × zV) :=
  zbind (fX7_onChair (zrf x0 1) x1 v) fun r_2 v_1 =>
  zbind (fX0_sideOf (zrf x0 0) r_2 x2 v_1) fun r_4 v_3 =>
  some (r_4, v_3)
set_option maxRecDepth 4000 in
theorem kX3_sideOnChair (l : Launch) (G : zG) (x0 : Nat) (t0 : zty G x0 1 3) (x1 : Int32) (x2 : Int32) (v : zV) (r : Int32) (w : zV) (h : fX3_sideOnChair x0 x1 x2 v = some (r, w)) : zMet l yX3_sideOnChair cX3_sideOnChair 3 (Option.some FieldType.int) 3 123 0 0 [zr G x0, .int x1, .int x2] G v (some (.int r)) w := by
  refine zM_of (own := RX3) (by decide) rfl (Nat.le_of_ble_eq_true rfl) (fun x hl F hr hk hcs => ?_)
  subst hl
  refine z_ls [(0, zr G x0), (1, .int x1), (2, .int x2)] [0, 1, 2] rfl ?_
  unfold fX3_sideOnChair at h
  refine z_aload_n F dX3_sideOnChair_0 rfl 0 rfl ?_
  refine zg_3_0 F t0 wF_X3_15 dX3_sideOnChair_1 ?_
  refine z_aload_n F dX3_sideOnChair_4 rfl 0 rfl ?_
  refine zg_3_1 F t0 wF_X3_19 dX3_sideOnChair_5 ?_
  refine z_iload_n F dX3_sideOnChair_8 rfl 1 rfl ?_
  obtain ⟨r_2, v_1, hq9, h⟩ := zbind_ex h
  refine z_callVi F [.int x1] [zr G (zrf x0 0)] (kX7_onChair x.2.1 G (zrf x0 1) (zt_f tc_3_1 t0) x1 v r_2 v_1 hq9) mI_X7_onChair (c := 7) rfl (zt_f tc_3_1 t0) wM_X3_54 mi_X7_onChair sl_X7_onChair dX3_sideOnChair_9 rfl ⟨Nat.le_of_ble_eq_true rfl, Nat.le_of_ble_eq_true rfl⟩ rfl (Nat.le_of_ble_eq_true rfl) ⟨Nat.zero_le _, Nat.zero_le _⟩ ?_
  refine z_iload_n F dX3_sideOnChair_12 rfl 2 rfl ?_
  obtain ⟨r_4, v_3, hq13, h⟩ := zbind_ex h
  refine z_callVi F [.int r_2, .int x2] [] (kX0_sideOf x.2.1 G (zrf x0 0) (zt_f tc_3_0 t0) r_2 x2 v_1 r_4 v_3 hq13) mI_X0_sideOf (c := 0) rfl (zt_f tc_3_0 t0) wM_X3_57 mi_X0_sideOf sl_X0_sideOf dX3_sideOnChair_13 rfl ⟨Nat.le_of_ble_eq_true rfl, Nat.le_of_ble_eq_true rfl⟩ rfl (Nat.le_of_ble_eq_true rfl) ⟨Nat.zero_le _, Nat.zero_le _⟩ ?_
  cases h
  exact z_reti F hr hk dX3_sideOnChair_16

theorem dX3_clearTally_0 : decode cX3_clearTally 0 = .ok (.iconst 0, 1) := by decide +kernel
theorem dX3_clearTally_1 : decode cX3_clearTally 1 = .ok (.istore_n 1, 1) := by decide +kernel
theorem dX3_clearTally_2 : decode cX3_clearTally 2 = .ok (.iload_n 1, 1) := by decide +kernel
theorem dX3_clearTally_3 : decode cX3_clearTally 3 = .ok (.aload_n 0, 1) := by decide +kernel
theorem dX3_clearTally_4 : decode cX3_clearTally 4 = .ok (.getfield 9, 3) := by decide +kernel
theorem dX3_clearTally_7 : decode cX3_clearTally 7 = .ok (.arraylength, 1) := by decide +kernel
theorem dX3_clearTally_8 : decode cX3_clearTally 8 = .ok (.if_icmp .ge 16, 3) := by decide +kernel
theorem dX3_clearTally_11 : decode cX3_clearTally 11 = .ok (.aload_n 0, 1) := by decide +kernel
theorem dX3_clearTally_12 : decode cX3_clearTally 12 = .ok (.getfield 9, 3) := by decide +kernel
theorem dX3_clearTally_15 : decode cX3_clearTally 15 = .ok (.iload_n 1, 1) := by decide +kernel
theorem dX3_clearTally_16 : decode cX3_clearTally 16 = .ok (.iconst 0, 1) := by decide +kernel
theorem dX3_clearTally_17 : decode cX3_clearTally 17 = .ok (.iastore, 1) := by decide +kernel
theorem dX3_clearTally_18 : decode cX3_clearTally 18 = .ok (.iinc 1 1, 3) := by decide +kernel
theorem dX3_clearTally_21 : decode cX3_clearTally 21 = .ok (.goto (-19), 3) := by decide +kernel
theorem dX3_clearTally_24 : decode cX3_clearTally 24 = .ok (.return_, 1) := by decide +kernel
def fX3_clearTally_2  : Nat → Nat → Int32 → zV → Option zV
  | 0 => fun _ _ _ => none
  | n + 1 => fun x0 x1 v =>
    if (Int32.ofNat (zlen (zrf x0 2))) ≤ x1 then
      some v
    else
      zix x1 (zlen (zrf x0 2)) <|
      zlet (zup v (zrf x0 2) (x1).toNatClampNeg (0 : Int32)) fun v_1 =>
      (fX3_clearTally_2 n) x0 (x1 + (1 : Int32)) v_1
set_option maxRecDepth 4000 in
theorem jX3_clearTally_2 (x : zCx) (G : zG) (F : zF x G cX3_clearTally 2 RX3 1 80) (hr : x.2.2.2.2.2.2.2.2.1.sig.returnType = (Option.none : Option FieldType)) (hk : x.2.2.2.2.2.2.2.2.1.locks = false) (w : zV)  : ∀ (n : Nat) (x0 : Nat) (t0 : zty G x0 1 3) (x1 : Int32) (v : zV), fX3_clearTally_2 n x0 x1 v = some w → zJ x G 2 (zQ x G none w 0 0) 0 0 2 [(0, zr G x0), (1, .int x1)] [] v := by
  intro n
  induction n with
  | zero => intro x0 t0 x1 v h; exact absurd h (by intro q; cases q)
  | succ n ih =>
    intro x0 t0 x1 v h
    rw [fX3_clearTally_2] at h
    dsimp only at h
    refine z_iload_n F dX3_clearTally_2 rfl 1 rfl ?_
    refine z_aload_n F dX3_clearTally_3 rfl 0 rfl ?_
    refine zg_3_2 F t0 wF_X3_9 dX3_clearTally_4 ?_
    refine z_alen0 F (zt_f tc_3_2 t0) dX3_clearTally_7 rfl ?_
    refine z_icmp_ge F 24 dX3_clearTally_8 rfl (fun hc => ?_) (fun hc => ?_)
    · replace h := zif_t hc h
      cases h
      exact z_retv F hr hk dX3_clearTally_24
    · replace h := zif_f hc h
      refine z_aload_n F dX3_clearTally_11 rfl 0 rfl ?_
      refine zg_3_2 F t0 wF_X3_9 dX3_clearTally_12 ?_
      refine z_iload_n F dX3_clearTally_15 rfl 1 rfl ?_
      refine z_iconst (y := (0 : Int32)) F dX3_clearTally_16 rfl ?_
      obtain ⟨hi17, h⟩ := zix_ex h
      refine z_iast F (zt_f tc_3_2 t0) dX3_clearTally_17 hi17 ?_
      obtain ⟨v_1, ev_1, h⟩ := zlet_ex h
      refine z_heap ev_1 ?_
      refine z_iinc F [(1, .int (x1 + (1 : Int32))), (0, zr G x0)] dX3_clearTally_18 1 rfl rfl (Nat.le_of_ble_eq_true rfl) rfl ?_
      refine z_goto F 2 dX3_clearTally_21 rfl ?_
      refine z_ls [(0, zr G x0), (1, .int (x1 + (1 : Int32)))] [1, 0] rfl ?_
      exact ih x0 t0 (x1 + (1 : Int32)) v_1 h

def fX3_clearTally (x0 : Nat) (v : zV) : Option zV :=
  fX3_clearTally_2  zFU x0 (0 : Int32) v
set_option maxRecDepth 4000 in
theorem kX3_clearTally (l : Launch) (G : zG) (x0 : Nat) (t0 : zty G x0 1 3) (v : zV) (w : zV) (h : fX3_clearTally x0 v = some w) : zMet l yX3_clearTally cX3_clearTally 2 (Option.none : Option FieldType) 1 80 0 0 [zr G x0] G v none w := by
  refine zM_of (own := RX3) (by decide) rfl (Nat.le_of_ble_eq_true rfl) (fun x hl F hr hk hcs => ?_)
  subst hl
  refine z_ls [(0, zr G x0)] [0] rfl ?_
  unfold fX3_clearTally at h
  refine z_iconst (y := (0 : Int32)) F dX3_clearTally_0 rfl ?_
  refine z_istore_n F [(1, .int (0 : Int32)), (0, zr G x0)] dX3_clearTally_1 rfl (Nat.le_of_ble_eq_true rfl) rfl ?_
  refine z_ls [(0, zr G x0), (1, .int (0 : Int32))] [1, 0] rfl ?_
  exact jX3_clearTally_2 x G F hr hk w   zFU x0 t0 (0 : Int32) v h

theorem dX3_addToTally_0 : decode cX3_addToTally 0 = .ok (.aload_n 0, 1) := by decide +kernel
theorem dX3_addToTally_1 : decode cX3_addToTally 1 = .ok (.iload_n 1, 1) := by decide +kernel
theorem dX3_addToTally_2 : decode cX3_addToTally 2 = .ok (.iload_n 2, 1) := by decide +kernel
theorem dX3_addToTally_3 : decode cX3_addToTally 3 = .ok (.invokevirtual 60, 3) := by decide +kernel
theorem dX3_addToTally_6 : decode cX3_addToTally 6 = .ok (.istore_n 3, 1) := by decide +kernel
theorem dX3_addToTally_7 : decode cX3_addToTally 7 = .ok (.aload_n 0, 1) := by decide +kernel
theorem dX3_addToTally_8 : decode cX3_addToTally 8 = .ok (.getfield 9, 3) := by decide +kernel
theorem dX3_addToTally_11 : decode cX3_addToTally 11 = .ok (.iload_n 3, 1) := by decide +kernel
theorem dX3_addToTally_12 : decode cX3_addToTally 12 = .ok (.aload_n 0, 1) := by decide +kernel
theorem dX3_addToTally_13 : decode cX3_addToTally 13 = .ok (.getfield 9, 3) := by decide +kernel
theorem dX3_addToTally_16 : decode cX3_addToTally 16 = .ok (.iload_n 3, 1) := by decide +kernel
theorem dX3_addToTally_17 : decode cX3_addToTally 17 = .ok (.invokestatic 63, 3) := by decide +kernel
theorem dX3_addToTally_20 : decode cX3_addToTally 20 = .ok (.iconst 1, 1) := by decide +kernel
theorem dX3_addToTally_21 : decode cX3_addToTally 21 = .ok (.iadd, 1) := by decide +kernel
theorem dX3_addToTally_22 : decode cX3_addToTally 22 = .ok (.invokestatic 67, 3) := by decide +kernel
theorem dX3_addToTally_25 : decode cX3_addToTally 25 = .ok (.return_, 1) := by decide +kernel
def fX3_addToTally (x0 : Nat) (x1 : Int32) (x2 : Int32) (v : zV) : Option zV :=
  zbind (fX3_sideOnChair x0 x1 x2 v) fun r_2 v_1 =>
  zbind (fX9_get (zrf x0 2) r_2 v_1) fun r_4 v_3 =>
  zbindv (fX9_set (zrf x0 2) r_2 (r_4 + (1 : Int32)) v_3) fun v_5 =>
  some v_5
set_option maxRecDepth 4000 in
theorem kX3_addToTally (l : Launch) (G : zG) (x0 : Nat) (t0 : zty G x0 1 3) (x1 : Int32) (x2 : Int32) (v : zV) (w : zV) (h : fX3_addToTally x0 x1 x2 v = some w) : zMet l yX3_addToTally cX3_addToTally 4 (Option.none : Option FieldType) 4 145 0 0 [zr G x0, .int x1, .int x2] G v none w := by
  refine zM_of (own := RX3) (by decide) rfl (Nat.le_of_ble_eq_true rfl) (fun x hl F hr hk hcs => ?_)
  subst hl
  refine z_ls [(0, zr G x0), (1, .int x1), (2, .int x2)] [0, 1, 2] rfl ?_
  unfold fX3_addToTally at h
  refine z_aload_n F dX3_addToTally_0 rfl 0 rfl ?_
  refine z_iload_n F dX3_addToTally_1 rfl 1 rfl ?_
  refine z_iload_n F dX3_addToTally_2 rfl 2 rfl ?_
  obtain ⟨r_2, v_1, hq3, h⟩ := zbind_ex h
  refine z_callVi F [.int x1, .int x2] [] (kX3_sideOnChair x.2.1 G x0 t0 x1 x2 v r_2 v_1 hq3) mI_X3_sideOnChair (c := 3) rfl t0 wM_X3_60 mi_X3_sideOnChair sl_X3_sideOnChair dX3_addToTally_3 rfl ⟨Nat.le_of_ble_eq_true rfl, Nat.le_of_ble_eq_true rfl⟩ rfl (Nat.le_of_ble_eq_true rfl) ⟨Nat.zero_le _, Nat.zero_le _⟩ ?_
  refine z_istore_n F [(3, .int r_2), (0, zr G x0), (1, .int x1), (2, .int x2)] dX3_addToTally_6 rfl (Nat.le_of_ble_eq_true rfl) rfl ?_
  refine z_aload_n F dX3_addToTally_7 rfl 1 rfl ?_
  refine zg_3_2 F t0 wF_X3_9 dX3_addToTally_8 ?_
  refine z_iload_n F dX3_addToTally_11 rfl 0 rfl ?_
  refine z_aload_n F dX3_addToTally_12 rfl 1 rfl ?_
  refine zg_3_2 F t0 wF_X3_9 dX3_addToTally_13 ?_
  refine z_iload_n F dX3_addToTally_16 rfl 0 rfl ?_
  obtain ⟨r_4, v_3, hq17, h⟩ := zbind_ex h
  refine z_callSNi F [zr G (zrf x0 2), .int r_2] [.int r_2, zr G (zrf x0 2)] (kX9_get x.2.1 G (zrf x0 2) (zt_f tc_3_2 t0) r_2 v_1 r_4 v_3 hq17) mI_X9_get wN_X3_63 ms_X9_get dX3_addToTally_17 rfl ⟨Nat.le_of_ble_eq_true rfl, Nat.le_of_ble_eq_true rfl⟩ rfl (Nat.le_of_ble_eq_true rfl) ⟨Nat.zero_le _, Nat.zero_le _⟩ ?_
  refine z_iconst (y := (1 : Int32)) F dX3_addToTally_20 rfl ?_
  refine z_iadd F dX3_addToTally_21 ?_
  obtain ⟨v_5, hq22, h⟩ := zbindv_ex h
  refine z_callSNv F [zr G (zrf x0 2), .int r_2, .int (r_4 + (1 : Int32))] [] (kX9_set x.2.1 G (zrf x0 2) (zt_f tc_3_2 t0) r_2 (r_4 + (1 : Int32)) v_3 v_5 hq22) mI_X9_set wN_X3_67 ms_X9_set dX3_addToTally_22 rfl ⟨Nat.le_of_ble_eq_true rfl, Nat.le_of_ble_eq_true rfl⟩ rfl (Nat.le_of_ble_eq_true rfl) ⟨Nat.zero_le _, Nat.zero_le _⟩ ?_
  cases h
  exact z_retv F hr hk dX3_addToTally_25

theorem dX3_leadingSide_0 : decode cX3_leadingSide 0 = .ok (.iconst (-1), 1) := by decide +kernel
theorem dX3_leadingSide_1 : decode cX3_leadingSide 1 = .ok (.istore_n 1, 1) := by decide +kernel
theorem dX3_leadingSide_2 : decode cX3_leadingSide 2 = .ok (.iconst 0, 1) := by decide +kernel
theorem dX3_leadingSide_3 : decode cX3_leadingSide 3 = .ok (.istore_n 2, 1) := by decide +kernel
theorem dX3_leadingSide_4 : decode cX3_leadingSide 4 = .ok (.iconst 0, 1) := by decide +kernel
theorem dX3_leadingSide_5 : decode cX3_leadingSide 5 = .ok (.istore_n 3, 1) := by decide +kernel
theorem dX3_leadingSide_6 : decode cX3_leadingSide 6 = .ok (.iload_n 3, 1) := by decide +kernel
theorem dX3_leadingSide_7 : decode cX3_leadingSide 7 = .ok (.aload_n 0, 1) := by decide +kernel
theorem dX3_leadingSide_8 : decode cX3_leadingSide 8 = .ok (.getfield 9, 3) := by decide +kernel
theorem dX3_leadingSide_11 : decode cX3_leadingSide 11 = .ok (.arraylength, 1) := by decide +kernel
theorem dX3_leadingSide_12 : decode cX3_leadingSide 12 = .ok (.if_icmp .ge 28, 3) := by decide +kernel
theorem dX3_leadingSide_15 : decode cX3_leadingSide 15 = .ok (.aload_n 0, 1) := by decide +kernel
theorem dX3_leadingSide_16 : decode cX3_leadingSide 16 = .ok (.getfield 9, 3) := by decide +kernel
theorem dX3_leadingSide_19 : decode cX3_leadingSide 19 = .ok (.iload_n 3, 1) := by decide +kernel
theorem dX3_leadingSide_20 : decode cX3_leadingSide 20 = .ok (.iaload, 1) := by decide +kernel
theorem dX3_leadingSide_21 : decode cX3_leadingSide 21 = .ok (.iload_n 2, 1) := by decide +kernel
theorem dX3_leadingSide_22 : decode cX3_leadingSide 22 = .ok (.if_icmp .le 12, 3) := by decide +kernel
theorem dX3_leadingSide_25 : decode cX3_leadingSide 25 = .ok (.iload_n 3, 1) := by decide +kernel
theorem dX3_leadingSide_26 : decode cX3_leadingSide 26 = .ok (.istore_n 1, 1) := by decide +kernel
theorem dX3_leadingSide_27 : decode cX3_leadingSide 27 = .ok (.aload_n 0, 1) := by decide +kernel
theorem dX3_leadingSide_28 : decode cX3_leadingSide 28 = .ok (.getfield 9, 3) := by decide +kernel
theorem dX3_leadingSide_31 : decode cX3_leadingSide 31 = .ok (.iload_n 3, 1) := by decide +kernel
theorem dX3_leadingSide_32 : decode cX3_leadingSide 32 = .ok (.iaload, 1) := by decide +kernel
theorem dX3_leadingSide_33 : decode cX3_leadingSide 33 = .ok (.istore_n 2, 1) := by decide +kernel
theorem dX3_leadingSide_34 : decode cX3_leadingSide 34 = .ok (.iinc 3 1, 3) := by decide +kernel
theorem dX3_leadingSide_37 : decode cX3_leadingSide 37 = .ok (.goto (-31), 3) := by decide +kernel
theorem dX3_leadingSide_40 : decode cX3_leadingSide 40 = .ok (.iload_n 1, 1) := by decide +kernel
theorem dX3_leadingSide_41 : decode cX3_leadingSide 41 = .ok (.ireturn, 1) := by decide +kernel
def fX3_leadingSide_6  : Nat → Nat → Int32 → Int32 → Int32 → zV → Option (Int32 × zV)
  | 0 => fun _ _ _ _ _ => none
  | n + 1 => fun x0 x1 x2 x3 v =>
    if (Int32.ofNat (zlen (zrf x0 2))) ≤ x3 then
      some (x1, v)
    else
      zix x3 (zlen (zrf x0 2)) <|
      if (v (zrf x0 2) (x3).toNatClampNeg) ≤ x2 then
        (fX3_leadingSide_6 n) x0 x1 x2 (x3 + (1 : Int32)) v
      else
        zix x3 (zlen (zrf x0 2)) <|
        (fX3_leadingSide_6 n) x0 x3 (v (zrf x0 2) (x3).toNatClampNeg) (x3 + (1 : Int32)) v
set_option maxRecDepth 4000 in
theorem jX3_leadingSide_6 (x : zCx) (G : zG) (F : zF x G cX3_leadingSide 4 RX3 1 80) (hr : x.2.2.2.2.2.2.2.2.1.sig.returnType = (Option.some FieldType.int)) (hk : x.2.2.2.2.2.2.2.2.1.locks = false) (r : Int32) (w : zV)  : ∀ (n : Nat) (x0 : Nat) (t0 : zty G x0 1 3) (x1 : Int32) (x2 : Int32) (x3 : Int32) (v : zV), fX3_leadingSide_6 n x0 x1 x2 x3 v = some (r, w) → zJ x G 4 (zQ x G (some (.int r)) w 0 0) 0 0 6 [(0, zr G x0), (1, .int x1), (2, .int x2), (3, .int x3)] [] v := by
  intro n
  induction n with
  | zero => intro x0 t0 x1 x2 x3 v h; exact absurd h (by intro q; cases q)
  | succ n ih =>
    intro x0 t0 x1 x2 x3 v h
    rw [fX3_leadingSide_6] at h
    dsimp only at h
    refine z_iload_n F dX3_leadingSide_6 rfl 3 rfl ?_
    refine z_aload_n F dX3_leadingSide_7 rfl 0 rfl ?_
    refine zg_3_2 F t0 wF_X3_9 dX3_leadingSide_8 ?_
    refine z_alen0 F (zt_f tc_3_2 t0) dX3_leadingSide_11 rfl ?_
    refine z_icmp_ge F 40 dX3_leadingSide_12 rfl (fun hc => ?_) (fun hc => ?_)
    · replace h := zif_t hc h
      refine z_iload_n F dX3_leadingSide_40 rfl 1 rfl ?_
      cases h
      exact z_reti F hr hk dX3_leadingSide_41
    · replace h := zif_f hc h
      refine z_aload_n F dX3_leadingSide_15 rfl 0 rfl ?_
      refine zg_3_2 F t0 wF_X3_9 dX3_leadingSide_16 ?_
      refine z_iload_n F dX3_leadingSide_19 rfl 3 rfl ?_
      obtain ⟨hi20, h⟩ := zix_ex h
      refine z_iald F (zt_f tc_3_2 t0) dX3_leadingSide_20 hi20 ?_
      refine z_iload_n F dX3_leadingSide_21 rfl 2 rfl ?_
      refine z_icmp_le F 34 dX3_leadingSide_22 rfl (fun hc => ?_) (fun hc => ?_)
      · replace h := zif_t hc h
        refine z_iinc F [(3, .int (x3 + (1 : Int32))), (0, zr G x0), (1, .int x1), (2, .int x2)] dX3_leadingSide_34 3 rfl rfl (Nat.le_of_ble_eq_true rfl) rfl ?_
        refine z_goto F 6 dX3_leadingSide_37 rfl ?_
        refine z_ls [(0, zr G x0), (1, .int x1), (2, .int x2), (3, .int (x3 + (1 : Int32)))] [1, 2, 3, 0] rfl ?_
        exact ih x0 t0 x1 x2 (x3 + (1 : Int32)) v h
      · replace h := zif_f hc h
        refine z_iload_n F dX3_leadingSide_25 rfl 3 rfl ?_
        refine z_istore_n F [(1, .int x3), (0, zr G x0), (2, .int x2), (3, .int x3)] dX3_leadingSide_26 rfl (Nat.le_of_ble_eq_true rfl) rfl ?_
        refine z_aload_n F dX3_leadingSide_27 rfl 1 rfl ?_
        refine zg_3_2 F t0 wF_X3_9 dX3_leadingSide_28 ?_
        refine z_iload_n F dX3_leadingSide_31 rfl 3 rfl ?_
        obtain ⟨hi32, h⟩ := zix_ex h
        refine z_iald F (zt_f tc_3_2 t0) dX3_leadingSide_32 hi32 ?_
        refine z_istore_n F [(2, .int (v (zrf x0 2) (x3).toNatClampNeg)), (1, .int x3), (0, zr G x0), (3, .int x3)] dX3_leadingSide_33 rfl (Nat.le_of_ble_eq_true rfl) rfl ?_
        refine z_iinc F [(3, .int (x3 + (1 : Int32))), (2, .int (v (zrf x0 2) (x3).toNatClampNeg)), (1, .int x3), (0, zr G x0)] dX3_leadingSide_34 3 rfl rfl (Nat.le_of_ble_eq_true rfl) rfl ?_
        refine z_goto F 6 dX3_leadingSide_37 rfl ?_
        refine z_ls [(0, zr G x0), (1, .int x3), (2, .int (v (zrf x0 2) (x3).toNatClampNeg)), (3, .int (x3 + (1 : Int32)))] [3, 2, 1, 0] rfl ?_
        exact ih x0 t0 x3 (v (zrf x0 2) (x3).toNatClampNeg) (x3 + (1 : Int32)) v h

def fX3_leadingSide (x0 : Nat) (v : zV) : Option (Int32 × zV) :=
  fX3_leadingSide_6  zFU x0 (-1 : Int32) (0 : Int32) (0 : Int32) v
set_option maxRecDepth 4000 in
theorem kX3_leadingSide (l : Launch) (G : zG) (x0 : Nat) (t0 : zty G x0 1 3) (v : zV) (r : Int32) (w : zV) (h : fX3_leadingSide x0 v = some (r, w)) : zMet l yX3_leadingSide cX3_leadingSide 4 (Option.some FieldType.int) 1 80 0 0 [zr G x0] G v (some (.int r)) w := by
  refine zM_of (own := RX3) (by decide) rfl (Nat.le_of_ble_eq_true rfl) (fun x hl F hr hk hcs => ?_)
  subst hl
  refine z_ls [(0, zr G x0)] [0] rfl ?_
  unfold fX3_leadingSide at h
  refine z_iconst (y := (-1 : Int32)) F dX3_leadingSide_0 rfl ?_
  refine z_istore_n F [(1, .int (-1 : Int32)), (0, zr G x0)] dX3_leadingSide_1 rfl (Nat.le_of_ble_eq_true rfl) rfl ?_
  refine z_iconst (y := (0 : Int32)) F dX3_leadingSide_2 rfl ?_
  refine z_istore_n F [(2, .int (0 : Int32)), (1, .int (-1 : Int32)), (0, zr G x0)] dX3_leadingSide_3 rfl (Nat.le_of_ble_eq_true rfl) rfl ?_
  refine z_iconst (y := (0 : Int32)) F dX3_leadingSide_4 rfl ?_
  refine z_istore_n F [(3, .int (0 : Int32)), (2, .int (0 : Int32)), (1, .int (-1 : Int32)), (0, zr G x0)] dX3_leadingSide_5 rfl (Nat.le_of_ble_eq_true rfl) rfl ?_
  refine z_ls [(0, zr G x0), (1, .int (-1 : Int32)), (2, .int (0 : Int32)), (3, .int (0 : Int32))] [3, 2, 1, 0] rfl ?_
  exact jX3_leadingSide_6 x G F hr hk r w   zFU x0 t0 (-1 : Int32) (0 : Int32) (0 : Int32) v h

theorem dX3_voteBy_0 : decode cX3_voteBy 0 = .ok (.aload_n 0, 1) := by decide +kernel
theorem dX3_voteBy_1 : decode cX3_voteBy 1 = .ok (.invokevirtual 71, 3) := by decide +kernel
theorem dX3_voteBy_4 : decode cX3_voteBy 4 = .ok (.iload_n 2, 1) := by decide +kernel
theorem dX3_voteBy_5 : decode cX3_voteBy 5 = .ok (.iload_n 3, 1) := by decide +kernel
theorem dX3_voteBy_6 : decode cX3_voteBy 6 = .ok (.if_icmp .le 34, 3) := by decide +kernel
theorem dX3_voteBy_9 : decode cX3_voteBy 9 = .ok (.iload_n 3, 1) := by decide +kernel
theorem dX3_voteBy_10 : decode cX3_voteBy 10 = .ok (.istore 4, 2) := by decide +kernel
theorem dX3_voteBy_12 : decode cX3_voteBy 12 = .ok (.iload 4, 2) := by decide +kernel
theorem dX3_voteBy_14 : decode cX3_voteBy 14 = .ok (.aload_n 0, 1) := by decide +kernel
theorem dX3_voteBy_15 : decode cX3_voteBy 15 = .ok (.getfield 19, 3) := by decide +kernel
theorem dX3_voteBy_18 : decode cX3_voteBy 18 = .ok (.getfield 74, 3) := by decide +kernel
theorem dX3_voteBy_21 : decode cX3_voteBy 21 = .ok (.if_icmp .ge 19, 3) := by decide +kernel
theorem dX3_voteBy_24 : decode cX3_voteBy 24 = .ok (.aload_n 0, 1) := by decide +kernel
theorem dX3_voteBy_25 : decode cX3_voteBy 25 = .ok (.iload 4, 2) := by decide +kernel
theorem dX3_voteBy_27 : decode cX3_voteBy 27 = .ok (.iload_n 1, 1) := by decide +kernel
theorem dX3_voteBy_28 : decode cX3_voteBy 28 = .ok (.invokevirtual 77, 3) := by decide +kernel
theorem dX3_voteBy_31 : decode cX3_voteBy 31 = .ok (.iload 4, 2) := by decide +kernel
theorem dX3_voteBy_33 : decode cX3_voteBy 33 = .ok (.iload_n 2, 1) := by decide +kernel
theorem dX3_voteBy_34 : decode cX3_voteBy 34 = .ok (.iadd, 1) := by decide +kernel
theorem dX3_voteBy_35 : decode cX3_voteBy 35 = .ok (.istore 4, 2) := by decide +kernel
theorem dX3_voteBy_37 : decode cX3_voteBy 37 = .ok (.goto (-25), 3) := by decide +kernel
theorem dX3_voteBy_40 : decode cX3_voteBy 40 = .ok (.aload_n 0, 1) := by decide +kernel
theorem dX3_voteBy_41 : decode cX3_voteBy 41 = .ok (.invokevirtual 81, 3) := by decide +kernel
theorem dX3_voteBy_44 : decode cX3_voteBy 44 = .ok (.ireturn, 1) := by decide +kernel
def fX3_voteBy_12  : Nat → Nat → Int32 → Int32 → Int32 → zV → Option (Int32 × zV)
  | 0 => fun _ _ _ _ _ => none
  | n + 1 => fun x0 x1 x2 x4 v =>
    if (v (zrf x0 1) 1) ≤ x4 then
      zbind (fX3_leadingSide x0 v) fun r_2 v_1 =>
      some (r_2, v_1)
    else
      zbindv (fX3_addToTally x0 x4 x1 v) fun v_3 =>
      (fX3_voteBy_12 n) x0 x1 x2 (x4 + x2) v_3
set_option maxRecDepth 4000 in
theorem jX3_voteBy_12 (x : zCx) (G : zG) (F : zF x G cX3_voteBy 5 RX3 5 168) (hr : x.2.2.2.2.2.2.2.2.1.sig.returnType = (Option.some FieldType.int)) (hk : x.2.2.2.2.2.2.2.2.1.locks = false) (r : Int32) (w : zV)  : ∀ (n : Nat) (x0 : Nat) (t0 : zty G x0 1 3) (x1 : Int32) (x2 : Int32) (x4 : Int32) (v : zV), fX3_voteBy_12 n x0 x1 x2 x4 v = some (r, w) → zJ x G 5 (zQ x G (some (.int r)) w 0 0) 0 0 12 [(0, zr G x0), (1, .int x1), (2, .int x2), (4, .int x4)] [] v := by
  intro n
  induction n with
  | zero => intro x0 t0 x1 x2 x4 v h; exact absurd h (by intro q; cases q)
  | succ n ih =>
    intro x0 t0 x1 x2 x4 v h
    rw [fX3_voteBy_12] at h
    dsimp only at h
    refine z_iload F dX3_voteBy_12 3 rfl ?_
    refine z_aload_n F dX3_voteBy_14 rfl 0 rfl ?_
    refine zg_3_1 F t0 wF_X3_19 dX3_voteBy_15 ?_
    refine zg_7_1 F (zt_f tc_3_1 t0) wF_X3_74 dX3_voteBy_18 ?_
    refine z_icmp_ge F 40 dX3_voteBy_21 rfl (fun hc => ?_) (fun hc => ?_)
    · replace h := zif_t hc h
      refine z_aload_n F dX3_voteBy_40 rfl 0 rfl ?_
      obtain ⟨r_2, v_1, hq41, h⟩ := zbind_ex h
      refine z_callVi F [] [] (kX3_leadingSide x.2.1 G x0 t0 v r_2 v_1 hq41) mI_X3_leadingSide (c := 3) rfl t0 wM_X3_81 mi_X3_leadingSide sl_X3_leadingSide dX3_voteBy_41 rfl ⟨Nat.le_of_ble_eq_true rfl, Nat.le_of_ble_eq_true rfl⟩ rfl (Nat.le_of_ble_eq_true rfl) ⟨Nat.zero_le _, Nat.zero_le _⟩ ?_
      cases h
      exact z_reti F hr hk dX3_voteBy_44
    · replace h := zif_f hc h
      refine z_aload_n F dX3_voteBy_24 rfl 0 rfl ?_
      refine z_iload F dX3_voteBy_25 3 rfl ?_
      refine z_iload_n F dX3_voteBy_27 rfl 1 rfl ?_
      obtain ⟨v_3, hq28, h⟩ := zbindv_ex h
      refine z_callVv F [.int x4, .int x1] [] (kX3_addToTally x.2.1 G x0 t0 x4 x1 v v_3 hq28) mI_X3_addToTally (c := 3) rfl t0 wM_X3_77 mi_X3_addToTally sl_X3_addToTally dX3_voteBy_28 rfl ⟨Nat.le_of_ble_eq_true rfl, Nat.le_of_ble_eq_true rfl⟩ rfl (Nat.le_of_ble_eq_true rfl) ⟨Nat.zero_le _, Nat.zero_le _⟩ ?_
      refine z_iload F dX3_voteBy_31 3 rfl ?_
      refine z_iload_n F dX3_voteBy_33 rfl 2 rfl ?_
      refine z_iadd F dX3_voteBy_34 ?_
      refine z_istore (n := 0) F [(4, .int (x4 + x2)), (0, zr G x0), (1, .int x1), (2, .int x2)] dX3_voteBy_35 (Nat.le_of_ble_eq_true rfl) rfl ?_
      refine z_goto F 12 dX3_voteBy_37 rfl ?_
      refine z_ls [(0, zr G x0), (1, .int x1), (2, .int x2), (4, .int (x4 + x2))] [1, 2, 3, 0] rfl ?_
      exact ih x0 t0 x1 x2 (x4 + x2) v_3 h

def fX3_voteBy (x0 : Nat) (x1 : Int32) (x2 : Int32) (x3 : Int32) (v : zV) : Option (Int32 × zV) :=
  zbindv (fX3_clearTally x0 v) fun v_1 =>
  if x2 ≤ x3 then
    zbind (fX3_leadingSide x0 v_1) fun r_3 v_2 =>
    some (r_3, v_2)
  else
    fX3_voteBy_12  zFU x0 x1 x2 x3 v_1
set_option maxRecDepth 4000 in
theorem kX3_voteBy (l : Launch) (G : zG) (x0 : Nat) (t0 : zty G x0 1 3) (x1 : Int32) (x2 : Int32) (x3 : Int32) (v : zV) (r : Int32) (w : zV) (h : fX3_voteBy x0 x1 x2 x3 v = some (r, w)) : zMet l yX3_voteBy cX3_voteBy 5 (Option.some FieldType.int) 5 168 0 0 [zr G x0, .int x1, .int x2, .int x3] G v (some (.int r)) w := by
  refine zM_of (own := RX3) (by decide) rfl (Nat.le_of_ble_eq_true rfl) (fun x hl F hr hk hcs => ?_)
  subst hl
  refine z_ls [(0, zr G x0), (1, .int x1), (2, .int x2), (3, .int x3)] [0, 1, 2, 3] rfl ?_
  unfold fX3_voteBy at h
  refine z_aload_n F dX3_voteBy_0 rfl 0 rfl ?_
  obtain ⟨v_1, hq1, h⟩ := zbindv_ex h
  refine z_callVv F [] [] (kX3_clearTally x.2.1 G x0 t0 v v_1 hq1) mI_X3_clearTally (c := 3) rfl t0 wM_X3_71 mi_X3_clearTally sl_X3_clearTally dX3_voteBy_1 rfl ⟨Nat.le_of_ble_eq_true rfl, Nat.le_of_ble_eq_true rfl⟩ rfl (Nat.le_of_ble_eq_true rfl) ⟨Nat.zero_le _, Nat.zero_le _⟩ ?_
  refine z_iload_n F dX3_voteBy_4 rfl 2 rfl ?_
  refine z_iload_n F dX3_voteBy_5 rfl 3 rfl ?_
  refine z_icmp_le F 40 dX3_voteBy_6 rfl (fun hc => ?_) (fun hc => ?_)
  · replace h := zif_t hc h
    refine z_aload_n F dX3_voteBy_40 rfl 0 rfl ?_
    obtain ⟨r_3, v_2, hq41, h⟩ := zbind_ex h
    refine z_callVi F [] [] (kX3_leadingSide x.2.1 G x0 t0 v_1 r_3 v_2 hq41) mI_X3_leadingSide (c := 3) rfl t0 wM_X3_81 mi_X3_leadingSide sl_X3_leadingSide dX3_voteBy_41 rfl ⟨Nat.le_of_ble_eq_true rfl, Nat.le_of_ble_eq_true rfl⟩ rfl (Nat.le_of_ble_eq_true rfl) ⟨Nat.zero_le _, Nat.zero_le _⟩ ?_
    cases h
    exact z_reti F hr hk dX3_voteBy_44
  · replace h := zif_f hc h
    refine z_iload_n F dX3_voteBy_9 rfl 3 rfl ?_
    refine z_istore (n := 0) F [(4, .int x3), (0, zr G x0), (1, .int x1), (2, .int x2), (3, .int x3)] dX3_voteBy_10 (Nat.le_of_ble_eq_true rfl) rfl ?_
    refine z_ls [(0, zr G x0), (1, .int x1), (2, .int x2), (4, .int x3)] [1, 2, 3, 0] rfl ?_
    exact jX3_voteBy_12 x G F hr hk r w   zFU x0 t0 x1 x2 x3 v_1 h

theorem dX3_longestSkip_0 : decode cX3_longestSkip 0 = .ok (.iconst 0, 1) := by decide +kernel
theorem dX3_longestSkip_1 : decode cX3_longestSkip 1 = .ok (.istore_n 2, 1) := by decide +kernel
theorem dX3_longestSkip_2 : decode cX3_longestSkip 2 = .ok (.iconst 0, 1) := by decide +kernel
theorem dX3_longestSkip_3 : decode cX3_longestSkip 3 = .ok (.istore_n 3, 1) := by decide +kernel
theorem dX3_longestSkip_4 : decode cX3_longestSkip 4 = .ok (.iload_n 3, 1) := by decide +kernel
theorem dX3_longestSkip_5 : decode cX3_longestSkip 5 = .ok (.aload_n 0, 1) := by decide +kernel
theorem dX3_longestSkip_6 : decode cX3_longestSkip 6 = .ok (.getfield 19, 3) := by decide +kernel
theorem dX3_longestSkip_9 : decode cX3_longestSkip 9 = .ok (.getfield 74, 3) := by decide +kernel
theorem dX3_longestSkip_12 : decode cX3_longestSkip 12 = .ok (.if_icmp .ge 65, 3) := by decide +kernel
theorem dX3_longestSkip_15 : decode cX3_longestSkip 15 = .ok (.iconst 1, 1) := by decide +kernel
theorem dX3_longestSkip_16 : decode cX3_longestSkip 16 = .ok (.istore 4, 2) := by decide +kernel
theorem dX3_longestSkip_18 : decode cX3_longestSkip 18 = .ok (.aload_n 0, 1) := by decide +kernel
theorem dX3_longestSkip_19 : decode cX3_longestSkip 19 = .ok (.iload_n 3, 1) := by decide +kernel
theorem dX3_longestSkip_20 : decode cX3_longestSkip 20 = .ok (.iload_n 1, 1) := by decide +kernel
theorem dX3_longestSkip_21 : decode cX3_longestSkip 21 = .ok (.invokevirtual 60, 3) := by decide +kernel
theorem dX3_longestSkip_24 : decode cX3_longestSkip 24 = .ok (.istore 5, 2) := by decide +kernel
theorem dX3_longestSkip_26 : decode cX3_longestSkip 26 = .ok (.iload_n 3, 1) := by decide +kernel
theorem dX3_longestSkip_27 : decode cX3_longestSkip 27 = .ok (.iconst 2, 1) := by decide +kernel
theorem dX3_longestSkip_28 : decode cX3_longestSkip 28 = .ok (.iadd, 1) := by decide +kernel
theorem dX3_longestSkip_29 : decode cX3_longestSkip 29 = .ok (.istore 6, 2) := by decide +kernel
theorem dX3_longestSkip_31 : decode cX3_longestSkip 31 = .ok (.iload 6, 2) := by decide +kernel
theorem dX3_longestSkip_33 : decode cX3_longestSkip 33 = .ok (.aload_n 0, 1) := by decide +kernel
theorem dX3_longestSkip_34 : decode cX3_longestSkip 34 = .ok (.getfield 19, 3) := by decide +kernel
theorem dX3_longestSkip_37 : decode cX3_longestSkip 37 = .ok (.getfield 74, 3) := by decide +kernel
theorem dX3_longestSkip_40 : decode cX3_longestSkip 40 = .ok (.if_icmp .ge 24, 3) := by decide +kernel
theorem dX3_longestSkip_43 : decode cX3_longestSkip 43 = .ok (.aload_n 0, 1) := by decide +kernel
theorem dX3_longestSkip_44 : decode cX3_longestSkip 44 = .ok (.iload 6, 2) := by decide +kernel
theorem dX3_longestSkip_46 : decode cX3_longestSkip 46 = .ok (.iload_n 1, 1) := by decide +kernel
theorem dX3_longestSkip_47 : decode cX3_longestSkip 47 = .ok (.invokevirtual 60, 3) := by decide +kernel
theorem dX3_longestSkip_50 : decode cX3_longestSkip 50 = .ok (.iload 5, 2) := by decide +kernel
theorem dX3_longestSkip_52 : decode cX3_longestSkip 52 = .ok (.if_icmp .ne 12, 3) := by decide +kernel
theorem dX3_longestSkip_55 : decode cX3_longestSkip 55 = .ok (.iinc 4 1, 3) := by decide +kernel
theorem dX3_longestSkip_58 : decode cX3_longestSkip 58 = .ok (.iinc 6 2, 3) := by decide +kernel
theorem dX3_longestSkip_61 : decode cX3_longestSkip 61 = .ok (.goto (-30), 3) := by decide +kernel
theorem dX3_longestSkip_64 : decode cX3_longestSkip 64 = .ok (.iload_n 2, 1) := by decide +kernel
theorem dX3_longestSkip_65 : decode cX3_longestSkip 65 = .ok (.iload 4, 2) := by decide +kernel
theorem dX3_longestSkip_67 : decode cX3_longestSkip 67 = .ok (.invokestatic 85, 3) := by decide +kernel
theorem dX3_longestSkip_70 : decode cX3_longestSkip 70 = .ok (.istore_n 2, 1) := by decide +kernel
theorem dX3_longestSkip_71 : decode cX3_longestSkip 71 = .ok (.iinc 3 1, 3) := by decide +kernel
theorem dX3_longestSkip_74 : decode cX3_longestSkip 74 = .ok (.goto (-70), 3) := by decide +kernel
theorem dX3_longestSkip_77 : decode cX3_longestSkip 77 = .ok (.iload_n 2, 1) := by decide +kernel
theorem dX3_longestSkip_78 : decode cX3_longestSkip 78 = .ok (.ireturn, 1) := by decide +kernel
def fX3_longestSkip_31 (K4 : Nat → Int32 → Int32 → Int32 → zV → Option (Int32 × zV)) : Nat → Nat → Int32 → Int32 → Int32 → Int32 → Int32 → Int32 → zV → Option (Int32 × zV)
  | 0 => fun _ _ _ _ _ _ _ _ => none
  | n + 1 => fun x0 x1 x2 x3 x4 x5 x6 v =>
    if (v (zrf x0 1) 1) ≤ x6 then
      K4 x0 x1 (zmax x2 x4) (x3 + (1 : Int32)) v
    else
      zbind (fX3_sideOnChair x0 x6 x1 v) fun r_2 v_1 =>
      if r_2 = x5 then
        (fX3_longestSkip_31 K4 n) x0 x1 x2 x3 (x4 + (1 : Int32)) x5 (x6 + (2 : Int32)) v_1
      else
        K4 x0 x1 (zmax x2 x4) (x3 + (1 : Int32)) v_1
set_option maxRecDepth 4000 in
theorem jX3_longestSkip_31 (x : zCx) (G : zG) (F : zF x G cX3_longestSkip 7 RX3 4 145) (hr : x.2.2.2.2.2.2.2.2.1.sig.returnType = (Option.some FieldType.int)) (hk : x.2.2.2.2.2.2.2.2.1.locks = false) (r : Int32) (w : zV) (K4 : Nat → Int32 → Int32 → Int32 → zV → Option (Int32 × zV)) (hK4 : ∀ (x0 : Nat) (t0 : zty G x0 1 3) (x1 : Int32) (x2 : Int32) (x3 : Int32) (v : zV), K4 x0 x1 x2 x3 v = some (r, w) → zJ x G 7 (zQ x G (some (.int r)) w 0 0) 0 0 4 [(0, zr G x0), (1, .int x1), (2, .int x2), (3, .int x3)] [] v) : ∀ (n : Nat) (x0 : Nat) (t0 : zty G x0 1 3) (x1 : Int32) (x2 : Int32) (x3 : Int32) (x4 : Int32) (x5 : Int32) (x6 : Int32) (v : zV), fX3_longestSkip_31 K4 n x0 x1 x2 x3 x4 x5 x6 v = some (r, w) → zJ x G 7 (zQ x G (some (.int r)) w 0 0) 0 0 31 [(0, zr G x0), (1, .int x1), (2, .int x2), (3, .int x3), (4, .int x4), (5, .int x5), (6, .int x6)] [] v := by
  intro n
  induction n with
  | zero => intro x0 t0 x1 x2 x3 x4 x5 x6 v h; exact absurd h (by intro q; cases q)
  | succ n ih =>
    intro x0 t0 x1 x2 x3 x4 x5 x6 v h
    rw [fX3_longestSkip_31] at h
    dsimp only at h
    refine z_iload F dX3_longestSkip_31 6 rfl ?_
    refine z_aload_n F dX3_longestSkip_33 rfl 0 rfl ?_
    refine zg_3_1 F t0 wF_X3_19 dX3_longestSkip_34 ?_
    refine zg_7_1 F (zt_f tc_3_1 t0) wF_X3_74 dX3_longestSkip_37 ?_
    refine z_icmp_ge F 64 dX3_longestSkip_40 rfl (fun hc => ?_) (fun hc => ?_)
    · replace h := zif_t hc h
      refine z_iload_n F dX3_longestSkip_64 rfl 2 rfl ?_
      refine z_iload F dX3_longestSkip_65 4 rfl ?_
      refine z_max F wM_X3_85 dX3_longestSkip_67 (Nat.le_of_ble_eq_true rfl) (Nat.le_of_ble_eq_true rfl) (Nat.le_of_ble_eq_true rfl) ⟨Nat.zero_le _, Nat.zero_le _⟩ ?_
      refine z_istore_n F [(2, .int (zmax x2 x4)), (0, zr G x0), (1, .int x1), (3, .int x3), (4, .int x4), (5, .int x5), (6, .int x6)] dX3_longestSkip_70 rfl (Nat.le_of_ble_eq_true rfl) rfl ?_
      refine z_iinc F [(3, .int (x3 + (1 : Int32))), (2, .int (zmax x2 x4)), (0, zr G x0), (1, .int x1), (4, .int x4), (5, .int x5), (6, .int x6)] dX3_longestSkip_71 3 rfl rfl (Nat.le_of_ble_eq_true rfl) rfl ?_
      refine z_goto F 4 dX3_longestSkip_74 rfl ?_
      refine z_ls [(0, zr G x0), (1, .int x1), (2, .int (zmax x2 x4)), (3, .int (x3 + (1 : Int32)))] [2, 3, 1, 0] rfl ?_
      exact hK4 x0 t0 x1 (zmax x2 x4) (x3 + (1 : Int32)) v h
    · replace h := zif_f hc h
      refine z_aload_n F dX3_longestSkip_43 rfl 0 rfl ?_
      refine z_iload F dX3_longestSkip_44 6 rfl ?_
      refine z_iload_n F dX3_longestSkip_46 rfl 1 rfl ?_
      obtain ⟨r_2, v_1, hq47, h⟩ := zbind_ex h
      refine z_callVi F [.int x6, .int x1] [] (kX3_sideOnChair x.2.1 G x0 t0 x6 x1 v r_2 v_1 hq47) mI_X3_sideOnChair (c := 3) rfl t0 wM_X3_60 mi_X3_sideOnChair sl_X3_sideOnChair dX3_longestSkip_47 rfl ⟨Nat.le_of_ble_eq_true rfl, Nat.le_of_ble_eq_true rfl⟩ rfl (Nat.le_of_ble_eq_true rfl) ⟨Nat.zero_le _, Nat.zero_le _⟩ ?_
      refine z_iload F dX3_longestSkip_50 5 rfl ?_
      refine z_icmp_ne F 64 dX3_longestSkip_52 rfl (fun hc => ?_) (fun hc => ?_)
      · replace h := zif_f hc h
        refine z_iload_n F dX3_longestSkip_64 rfl 2 rfl ?_
        refine z_iload F dX3_longestSkip_65 4 rfl ?_
        refine z_max F wM_X3_85 dX3_longestSkip_67 (Nat.le_of_ble_eq_true rfl) (Nat.le_of_ble_eq_true rfl) (Nat.le_of_ble_eq_true rfl) ⟨Nat.zero_le _, Nat.zero_le _⟩ ?_
        refine z_istore_n F [(2, .int (zmax x2 x4)), (0, zr G x0), (1, .int x1), (3, .int x3), (4, .int x4), (5, .int x5), (6, .int x6)] dX3_longestSkip_70 rfl (Nat.le_of_ble_eq_true rfl) rfl ?_
        refine z_iinc F [(3, .int (x3 + (1 : Int32))), (2, .int (zmax x2 x4)), (0, zr G x0), (1, .int x1), (4, .int x4), (5, .int x5), (6, .int x6)] dX3_longestSkip_71 3 rfl rfl (Nat.le_of_ble_eq_true rfl) rfl ?_
        refine z_goto F 4 dX3_longestSkip_74 rfl ?_
        refine z_ls [(0, zr G x0), (1, .int x1), (2, .int (zmax x2 x4)), (3, .int (x3 + (1 : Int32)))] [2, 3, 1, 0] rfl ?_
        exact hK4 x0 t0 x1 (zmax x2 x4) (x3 + (1 : Int32)) v_1 h
      · replace h := zif_t hc h
        refine z_iinc F [(4, .int (x4 + (1 : Int32))), (0, zr G x0), (1, .int x1), (2, .int x2), (3, .int x3), (5, .int x5), (6, .int x6)] dX3_longestSkip_55 4 rfl rfl (Nat.le_of_ble_eq_true rfl) rfl ?_
        refine z_iinc F [(6, .int (x6 + (2 : Int32))), (4, .int (x4 + (1 : Int32))), (0, zr G x0), (1, .int x1), (2, .int x2), (3, .int x3), (5, .int x5)] dX3_longestSkip_58 6 rfl rfl (Nat.le_of_ble_eq_true rfl) rfl ?_
        refine z_goto F 31 dX3_longestSkip_61 rfl ?_
        refine z_ls [(0, zr G x0), (1, .int x1), (2, .int x2), (3, .int x3), (4, .int (x4 + (1 : Int32))), (5, .int x5), (6, .int (x6 + (2 : Int32)))] [2, 3, 4, 5, 1, 6, 0] rfl ?_
        exact ih x0 t0 x1 x2 x3 (x4 + (1 : Int32)) x5 (x6 + (2 : Int32)) v_1 h

def fX3_longestSkip_4  : Nat → Nat → Int32 → Int32 → Int32 → zV → Option (Int32 × zV)
  | 0 => fun _ _ _ _ _ => none
  | n + 1 => fun x0 x1 x2 x3 v =>
    if (v (zrf x0 1) 1) ≤ x3 then
      some (x2, v)
    else
      zbind (fX3_sideOnChair x0 x3 x1 v) fun r_2 v_1 =>
      fX3_longestSkip_31 (fX3_longestSkip_4 n) zFU x0 x1 x2 x3 (1 : Int32) r_2 (x3 + (2 : Int32)) v_1
set_option maxRecDepth 4000 in
theorem jX3_longestSkip_4 (x : zCx) (G : zG) (F : zF x G cX3_longestSkip 7 RX3 4 145) (hr : x.2.2.2.2.2.2.2.2.1.sig.returnType = (Option.some FieldType.int)) (hk : x.2.2.2.2.2.2.2.2.1.locks = false) (r : Int32) (w : zV)  : ∀ (n : Nat) (x0 : Nat) (t0 : zty G x0 1 3) (x1 : Int32) (x2 : Int32) (x3 : Int32) (v : zV), fX3_longestSkip_4 n x0 x1 x2 x3 v = some (r, w) → zJ x G 7 (zQ x G (some (.int r)) w 0 0) 0 0 4 [(0, zr G x0), (1, .int x1), (2, .int x2), (3, .int x3)] [] v := by
  intro n
  induction n with
  | zero => intro x0 t0 x1 x2 x3 v h; exact absurd h (by intro q; cases q)
  | succ n ih =>
    intro x0 t0 x1 x2 x3 v h
    rw [fX3_longestSkip_4] at h
    dsimp only at h
    refine z_iload_n F dX3_longestSkip_4 rfl 3 rfl ?_
    refine z_aload_n F dX3_longestSkip_5 rfl 0 rfl ?_
    refine zg_3_1 F t0 wF_X3_19 dX3_longestSkip_6 ?_
    refine zg_7_1 F (zt_f tc_3_1 t0) wF_X3_74 dX3_longestSkip_9 ?_
    refine z_icmp_ge F 77 dX3_longestSkip_12 rfl (fun hc => ?_) (fun hc => ?_)
    · replace h := zif_t hc h
      refine z_iload_n F dX3_longestSkip_77 rfl 2 rfl ?_
      cases h
      exact z_reti F hr hk dX3_longestSkip_78
    · replace h := zif_f hc h
      refine z_iconst (y := (1 : Int32)) F dX3_longestSkip_15 rfl ?_
      refine z_istore (n := 0) F [(4, .int (1 : Int32)), (0, zr G x0), (1, .int x1), (2, .int x2), (3, .int x3)] dX3_longestSkip_16 (Nat.le_of_ble_eq_true rfl) rfl ?_
      refine z_aload_n F dX3_longestSkip_18 rfl 1 rfl ?_
      refine z_iload_n F dX3_longestSkip_19 rfl 4 rfl ?_
      refine z_iload_n F dX3_longestSkip_20 rfl 2 rfl ?_
      obtain ⟨r_2, v_1, hq21, h⟩ := zbind_ex h
      refine z_callVi F [.int x3, .int x1] [] (kX3_sideOnChair x.2.1 G x0 t0 x3 x1 v r_2 v_1 hq21) mI_X3_sideOnChair (c := 3) rfl t0 wM_X3_60 mi_X3_sideOnChair sl_X3_sideOnChair dX3_longestSkip_21 rfl ⟨Nat.le_of_ble_eq_true rfl, Nat.le_of_ble_eq_true rfl⟩ rfl (Nat.le_of_ble_eq_true rfl) ⟨Nat.zero_le _, Nat.zero_le _⟩ ?_
      refine z_istore (n := 0) F [(5, .int r_2), (4, .int (1 : Int32)), (0, zr G x0), (1, .int x1), (2, .int x2), (3, .int x3)] dX3_longestSkip_24 (Nat.le_of_ble_eq_true rfl) rfl ?_
      refine z_iload_n F dX3_longestSkip_26 rfl 5 rfl ?_
      refine z_iconst (y := (2 : Int32)) F dX3_longestSkip_27 rfl ?_
      refine z_iadd F dX3_longestSkip_28 ?_
      refine z_istore (n := 0) F [(6, .int (x3 + (2 : Int32))), (5, .int r_2), (4, .int (1 : Int32)), (0, zr G x0), (1, .int x1), (2, .int x2), (3, .int x3)] dX3_longestSkip_29 (Nat.le_of_ble_eq_true rfl) rfl ?_
      refine z_ls [(0, zr G x0), (1, .int x1), (2, .int x2), (3, .int x3), (4, .int (1 : Int32)), (5, .int r_2), (6, .int (x3 + (2 : Int32)))] [3, 4, 5, 6, 2, 1, 0] rfl ?_
      exact jX3_longestSkip_31 x G F hr hk r w (fX3_longestSkip_4 n) ih zFU x0 t0 x1 x2 x3 (1 : Int32) r_2 (x3 + (2 : Int32)) v_1 h

def fX3_longestSkip (x0 : Nat) (x1 : Int32) (v : zV) : Option (Int32 × zV) :=
  fX3_longestSkip_4  zFU x0 x1 (0 : Int32) (0 : Int32) v
set_option maxRecDepth 4000 in
theorem kX3_longestSkip (l : Launch) (G : zG) (x0 : Nat) (t0 : zty G x0 1 3) (x1 : Int32) (v : zV) (r : Int32) (w : zV) (h : fX3_longestSkip x0 x1 v = some (r, w)) : zMet l yX3_longestSkip cX3_longestSkip 7 (Option.some FieldType.int) 4 145 0 0 [zr G x0, .int x1] G v (some (.int r)) w := by
  refine zM_of (own := RX3) (by decide) rfl (Nat.le_of_ble_eq_true rfl) (fun x hl F hr hk hcs => ?_)
  subst hl
  refine z_ls [(0, zr G x0), (1, .int x1)] [0, 1] rfl ?_
  unfold fX3_longestSkip at h
  refine z_iconst (y := (0 : Int32)) F dX3_longestSkip_0 rfl ?_
  refine z_istore_n F [(2, .int (0 : Int32)), (0, zr G x0), (1, .int x1)] dX3_longestSkip_1 rfl (Nat.le_of_ble_eq_true rfl) rfl ?_
  refine z_iconst (y := (0 : Int32)) F dX3_longestSkip_2 rfl ?_
  refine z_istore_n F [(3, .int (0 : Int32)), (2, .int (0 : Int32)), (0, zr G x0), (1, .int x1)] dX3_longestSkip_3 rfl (Nat.le_of_ble_eq_true rfl) rfl ?_
  refine z_ls [(0, zr G x0), (1, .int x1), (2, .int (0 : Int32)), (3, .int (0 : Int32))] [2, 3, 1, 0] rfl ?_
  exact jX3_longestSkip_4 x G F hr hk r w   zFU x0 t0 x1 (0 : Int32) (0 : Int32) v h

theorem dX3_mostMiddling_0 : decode cX3_mostMiddling 0 = .ok (.iconst (-1), 1) := by decide +kernel
theorem dX3_mostMiddling_1 : decode cX3_mostMiddling 1 = .ok (.istore_n 1, 1) := by decide +kernel
theorem dX3_mostMiddling_2 : decode cX3_mostMiddling 2 = .ok (.iconst 0, 1) := by decide +kernel
theorem dX3_mostMiddling_3 : decode cX3_mostMiddling 3 = .ok (.istore_n 2, 1) := by decide +kernel
theorem dX3_mostMiddling_4 : decode cX3_mostMiddling 4 = .ok (.iconst 0, 1) := by decide +kernel
theorem dX3_mostMiddling_5 : decode cX3_mostMiddling 5 = .ok (.istore_n 3, 1) := by decide +kernel
theorem dX3_mostMiddling_6 : decode cX3_mostMiddling 6 = .ok (.iload_n 3, 1) := by decide +kernel
theorem dX3_mostMiddling_7 : decode cX3_mostMiddling 7 = .ok (.aload_n 0, 1) := by decide +kernel
theorem dX3_mostMiddling_8 : decode cX3_mostMiddling 8 = .ok (.getfield 19, 3) := by decide +kernel
theorem dX3_mostMiddling_11 : decode cX3_mostMiddling 11 = .ok (.getfield 74, 3) := by decide +kernel
theorem dX3_mostMiddling_14 : decode cX3_mostMiddling 14 = .ok (.if_icmp .ge 85, 3) := by decide +kernel
theorem dX3_mostMiddling_17 : decode cX3_mostMiddling 17 = .ok (.iconst 0, 1) := by decide +kernel
theorem dX3_mostMiddling_18 : decode cX3_mostMiddling 18 = .ok (.istore 4, 2) := by decide +kernel
theorem dX3_mostMiddling_20 : decode cX3_mostMiddling 20 = .ok (.iconst 0, 1) := by decide +kernel
theorem dX3_mostMiddling_21 : decode cX3_mostMiddling 21 = .ok (.istore 5, 2) := by decide +kernel
theorem dX3_mostMiddling_23 : decode cX3_mostMiddling 23 = .ok (.iload 5, 2) := by decide +kernel
theorem dX3_mostMiddling_25 : decode cX3_mostMiddling 25 = .ok (.aload_n 0, 1) := by decide +kernel
theorem dX3_mostMiddling_26 : decode cX3_mostMiddling 26 = .ok (.getfield 19, 3) := by decide +kernel
theorem dX3_mostMiddling_29 : decode cX3_mostMiddling 29 = .ok (.getfield 74, 3) := by decide +kernel
theorem dX3_mostMiddling_32 : decode cX3_mostMiddling 32 = .ok (.if_icmp .ge 38, 3) := by decide +kernel
theorem dX3_mostMiddling_35 : decode cX3_mostMiddling 35 = .ok (.iload 4, 2) := by decide +kernel
theorem dX3_mostMiddling_37 : decode cX3_mostMiddling 37 = .ok (.aload_n 0, 1) := by decide +kernel
theorem dX3_mostMiddling_38 : decode cX3_mostMiddling 38 = .ok (.getfield 15, 3) := by decide +kernel
theorem dX3_mostMiddling_41 : decode cX3_mostMiddling 41 = .ok (.aload_n 0, 1) := by decide +kernel
theorem dX3_mostMiddling_42 : decode cX3_mostMiddling 42 = .ok (.getfield 19, 3) := by decide +kernel
theorem dX3_mostMiddling_45 : decode cX3_mostMiddling 45 = .ok (.iload_n 3, 1) := by decide +kernel
theorem dX3_mostMiddling_46 : decode cX3_mostMiddling 46 = .ok (.invokevirtual 54, 3) := by decide +kernel
theorem dX3_mostMiddling_49 : decode cX3_mostMiddling 49 = .ok (.aload_n 0, 1) := by decide +kernel
theorem dX3_mostMiddling_50 : decode cX3_mostMiddling 50 = .ok (.getfield 19, 3) := by decide +kernel
theorem dX3_mostMiddling_53 : decode cX3_mostMiddling 53 = .ok (.iload 5, 2) := by decide +kernel
theorem dX3_mostMiddling_55 : decode cX3_mostMiddling 55 = .ok (.invokevirtual 54, 3) := by decide +kernel
theorem dX3_mostMiddling_58 : decode cX3_mostMiddling 58 = .ok (.invokevirtual 35, 3) := by decide +kernel
theorem dX3_mostMiddling_61 : decode cX3_mostMiddling 61 = .ok (.iadd, 1) := by decide +kernel
theorem dX3_mostMiddling_62 : decode cX3_mostMiddling 62 = .ok (.istore 4, 2) := by decide +kernel
theorem dX3_mostMiddling_64 : decode cX3_mostMiddling 64 = .ok (.iinc 5 1, 3) := by decide +kernel
theorem dX3_mostMiddling_67 : decode cX3_mostMiddling 67 = .ok (.goto (-44), 3) := by decide +kernel
theorem dX3_mostMiddling_70 : decode cX3_mostMiddling 70 = .ok (.iload_n 1, 1) := by decide +kernel
theorem dX3_mostMiddling_71 : decode cX3_mostMiddling 71 = .ok (.iconst (-1), 1) := by decide +kernel
theorem dX3_mostMiddling_72 : decode cX3_mostMiddling 72 = .ok (.if_icmp .eq 9, 3) := by decide +kernel
theorem dX3_mostMiddling_75 : decode cX3_mostMiddling 75 = .ok (.iload 4, 2) := by decide +kernel
theorem dX3_mostMiddling_77 : decode cX3_mostMiddling 77 = .ok (.iload_n 2, 1) := by decide +kernel
theorem dX3_mostMiddling_78 : decode cX3_mostMiddling 78 = .ok (.if_icmp .ge 15, 3) := by decide +kernel
theorem dX3_mostMiddling_81 : decode cX3_mostMiddling 81 = .ok (.aload_n 0, 1) := by decide +kernel
theorem dX3_mostMiddling_82 : decode cX3_mostMiddling 82 = .ok (.getfield 19, 3) := by decide +kernel
theorem dX3_mostMiddling_85 : decode cX3_mostMiddling 85 = .ok (.iload_n 3, 1) := by decide +kernel
theorem dX3_mostMiddling_86 : decode cX3_mostMiddling 86 = .ok (.invokevirtual 54, 3) := by decide +kernel
theorem dX3_mostMiddling_89 : decode cX3_mostMiddling 89 = .ok (.istore_n 1, 1) := by decide +kernel
theorem dX3_mostMiddling_90 : decode cX3_mostMiddling 90 = .ok (.iload 4, 2) := by decide +kernel
theorem dX3_mostMiddling_92 : decode cX3_mostMiddling 92 = .ok (.istore_n 2, 1) := by decide +kernel
theorem dX3_mostMiddling_93 : decode cX3_mostMiddling 93 = .ok (.iinc 3 1, 3) := by decide +kernel
theorem dX3_mostMiddling_96 : decode cX3_mostMiddling 96 = .ok (.goto (-90), 3) := by decide +kernel
theorem dX3_mostMiddling_99 : decode cX3_mostMiddling 99 = .ok (.iload_n 1, 1) := by decide +kernel
theorem dX3_mostMiddling_100 : decode cX3_mostMiddling 100 = .ok (.ireturn, 1) := by decide +kernel
def fX3_mostMiddling_70 (K6 : Nat → Int32 → Int32 → Int32 → zV → Option (Int32 × zV)) (x0 : Nat) (x1 : Int32) (x2 : Int32) (x3 : Int32) (x4 : Int32) (v : zV) : Option (Int32 × zV) :=
  if x1 = (-1 : Int32) then
    zbind (fX7_onChair (zrf x0 1) x3 v) fun r_2 v_1 =>
    K6 x0 r_2 x4 (x3 + (1 : Int32)) v_1
  else
    if x2 ≤ x4 then
      K6 x0 x1 x2 (x3 + (1 : Int32)) v
    else
      zbind (fX7_onChair (zrf x0 1) x3 v) fun r_4 v_3 =>
      K6 x0 r_4 x4 (x3 + (1 : Int32)) v_3
set_option maxRecDepth 4000 in
theorem jX3_mostMiddling_70 (x : zCx) (G : zG) (F : zF x G cX3_mostMiddling 6 RX3 3 124) (hr : x.2.2.2.2.2.2.2.2.1.sig.returnType = (Option.some FieldType.int)) (hk : x.2.2.2.2.2.2.2.2.1.locks = false) (r : Int32) (w : zV) (K6 : Nat → Int32 → Int32 → Int32 → zV → Option (Int32 × zV)) (hK6 : ∀ (x0 : Nat) (t0 : zty G x0 1 3) (x1 : Int32) (x2 : Int32) (x3 : Int32) (v : zV), K6 x0 x1 x2 x3 v = some (r, w) → zJ x G 6 (zQ x G (some (.int r)) w 0 0) 0 0 6 [(0, zr G x0), (1, .int x1), (2, .int x2), (3, .int x3)] [] v) : ∀ (x0 : Nat) (t0 : zty G x0 1 3) (x1 : Int32) (x2 : Int32) (x3 : Int32) (x4 : Int32) (v : zV), fX3_mostMiddling_70 K6 x0 x1 x2 x3 x4 v = some (r, w) → zJ x G 6 (zQ x G (some (.int r)) w 0 0) 0 0 70 [(0, zr G x0), (1, .int x1), (2, .int x2), (3, .int x3), (4, .int x4)] [] v := by
  intro x0 t0 x1 x2 x3 x4 v h
  unfold fX3_mostMiddling_70 at h
  refine z_iload_n F dX3_mostMiddling_70 rfl 1 rfl ?_
  refine z_iconst (y := (-1 : Int32)) F dX3_mostMiddling_71 rfl ?_
  refine z_icmp_eq F 81 dX3_mostMiddling_72 rfl (fun hc => ?_) (fun hc => ?_)
  · replace h := zif_t hc h
    refine z_aload_n F dX3_mostMiddling_81 rfl 0 rfl ?_
    refine zg_3_1 F t0 wF_X3_19 dX3_mostMiddling_82 ?_
    refine z_iload_n F dX3_mostMiddling_85 rfl 3 rfl ?_
    obtain ⟨r_2, v_1, hq86, h⟩ := zbind_ex h
    refine z_callVi F [.int x3] [] (kX7_onChair x.2.1 G (zrf x0 1) (zt_f tc_3_1 t0) x3 v r_2 v_1 hq86) mI_X7_onChair (c := 7) rfl (zt_f tc_3_1 t0) wM_X3_54 mi_X7_onChair sl_X7_onChair dX3_mostMiddling_86 rfl ⟨Nat.le_of_ble_eq_true rfl, Nat.le_of_ble_eq_true rfl⟩ rfl (Nat.le_of_ble_eq_true rfl) ⟨Nat.zero_le _, Nat.zero_le _⟩ ?_
    refine z_istore_n F [(1, .int r_2), (0, zr G x0), (2, .int x2), (3, .int x3), (4, .int x4)] dX3_mostMiddling_89 rfl (Nat.le_of_ble_eq_true rfl) rfl ?_
    refine z_iload F dX3_mostMiddling_90 4 rfl ?_
    refine z_istore_n F [(2, .int x4), (1, .int r_2), (0, zr G x0), (3, .int x3), (4, .int x4)] dX3_mostMiddling_92 rfl (Nat.le_of_ble_eq_true rfl) rfl ?_
    refine z_iinc F [(3, .int (x3 + (1 : Int32))), (2, .int x4), (1, .int r_2), (0, zr G x0), (4, .int x4)] dX3_mostMiddling_93 3 rfl rfl (Nat.le_of_ble_eq_true rfl) rfl ?_
    refine z_goto F 6 dX3_mostMiddling_96 rfl ?_
    refine z_ls [(0, zr G x0), (1, .int r_2), (2, .int x4), (3, .int (x3 + (1 : Int32)))] [3, 2, 1, 0] rfl ?_
    exact hK6 x0 t0 r_2 x4 (x3 + (1 : Int32)) v_1 h
  · replace h := zif_f hc h
    refine z_iload F dX3_mostMiddling_75 4 rfl ?_
    refine z_iload_n F dX3_mostMiddling_77 rfl 2 rfl ?_
    refine z_icmp_ge F 93 dX3_mostMiddling_78 rfl (fun hc => ?_) (fun hc => ?_)
    · replace h := zif_t hc h
      refine z_iinc F [(3, .int (x3 + (1 : Int32))), (0, zr G x0), (1, .int x1), (2, .int x2), (4, .int x4)] dX3_mostMiddling_93 3 rfl rfl (Nat.le_of_ble_eq_true rfl) rfl ?_
      refine z_goto F 6 dX3_mostMiddling_96 rfl ?_
      refine z_ls [(0, zr G x0), (1, .int x1), (2, .int x2), (3, .int (x3 + (1 : Int32)))] [1, 2, 3, 0] rfl ?_
      exact hK6 x0 t0 x1 x2 (x3 + (1 : Int32)) v h
    · replace h := zif_f hc h
      refine z_aload_n F dX3_mostMiddling_81 rfl 0 rfl ?_
      refine zg_3_1 F t0 wF_X3_19 dX3_mostMiddling_82 ?_
      refine z_iload_n F dX3_mostMiddling_85 rfl 3 rfl ?_
      obtain ⟨r_4, v_3, hq86, h⟩ := zbind_ex h
      refine z_callVi F [.int x3] [] (kX7_onChair x.2.1 G (zrf x0 1) (zt_f tc_3_1 t0) x3 v r_4 v_3 hq86) mI_X7_onChair (c := 7) rfl (zt_f tc_3_1 t0) wM_X3_54 mi_X7_onChair sl_X7_onChair dX3_mostMiddling_86 rfl ⟨Nat.le_of_ble_eq_true rfl, Nat.le_of_ble_eq_true rfl⟩ rfl (Nat.le_of_ble_eq_true rfl) ⟨Nat.zero_le _, Nat.zero_le _⟩ ?_
      refine z_istore_n F [(1, .int r_4), (0, zr G x0), (2, .int x2), (3, .int x3), (4, .int x4)] dX3_mostMiddling_89 rfl (Nat.le_of_ble_eq_true rfl) rfl ?_
      refine z_iload F dX3_mostMiddling_90 4 rfl ?_
      refine z_istore_n F [(2, .int x4), (1, .int r_4), (0, zr G x0), (3, .int x3), (4, .int x4)] dX3_mostMiddling_92 rfl (Nat.le_of_ble_eq_true rfl) rfl ?_
      refine z_iinc F [(3, .int (x3 + (1 : Int32))), (2, .int x4), (1, .int r_4), (0, zr G x0), (4, .int x4)] dX3_mostMiddling_93 3 rfl rfl (Nat.le_of_ble_eq_true rfl) rfl ?_
      refine z_goto F 6 dX3_mostMiddling_96 rfl ?_
      refine z_ls [(0, zr G x0), (1, .int r_4), (2, .int x4), (3, .int (x3 + (1 : Int32)))] [3, 2, 1, 0] rfl ?_
      exact hK6 x0 t0 r_4 x4 (x3 + (1 : Int32)) v_3 h

def fX3_mostMiddling_23 (K6 : Nat → Int32 → Int32 → Int32 → zV → Option (Int32 × zV)) : Nat → Nat → Int32 → Int32 → Int32 → Int32 → Int32 → zV → Option (Int32 × zV)
  | 0 => fun _ _ _ _ _ _ _ => none
  | n + 1 => fun x0 x1 x2 x3 x4 x5 v =>
    if (v (zrf x0 1) 1) ≤ x5 then
      fX3_mostMiddling_70 K6 x0 x1 x2 x3 x4 v
    else
      zbind (fX7_onChair (zrf x0 1) x3 v) fun r_2 v_1 =>
      zbind (fX7_onChair (zrf x0 1) x5 v_1) fun r_4 v_3 =>
      zbind (fX0_differing (zrf x0 0) r_2 r_4 v_3) fun r_6 v_5 =>
      (fX3_mostMiddling_23 K6 n) x0 x1 x2 x3 (x4 + r_6) (x5 + (1 : Int32)) v_5
set_option maxRecDepth 4000 in
theorem jX3_mostMiddling_23 (x : zCx) (G : zG) (F : zF x G cX3_mostMiddling 6 RX3 3 124) (hr : x.2.2.2.2.2.2.2.2.1.sig.returnType = (Option.some FieldType.int)) (hk : x.2.2.2.2.2.2.2.2.1.locks = false) (r : Int32) (w : zV) (K6 : Nat → Int32 → Int32 → Int32 → zV → Option (Int32 × zV)) (hK6 : ∀ (x0 : Nat) (t0 : zty G x0 1 3) (x1 : Int32) (x2 : Int32) (x3 : Int32) (v : zV), K6 x0 x1 x2 x3 v = some (r, w) → zJ x G 6 (zQ x G (some (.int r)) w 0 0) 0 0 6 [(0, zr G x0), (1, .int x1), (2, .int x2), (3, .int x3)] [] v) : ∀ (n : Nat) (x0 : Nat) (t0 : zty G x0 1 3) (x1 : Int32) (x2 : Int32) (x3 : Int32) (x4 : Int32) (x5 : Int32) (v : zV), fX3_mostMiddling_23 K6 n x0 x1 x2 x3 x4 x5 v = some (r, w) → zJ x G 6 (zQ x G (some (.int r)) w 0 0) 0 0 23 [(0, zr G x0), (1, .int x1), (2, .int x2), (3, .int x3), (4, .int x4), (5, .int x5)] [] v := by
  intro n
  induction n with
  | zero => intro x0 t0 x1 x2 x3 x4 x5 v h; exact absurd h (by intro q; cases q)
  | succ n ih =>
    intro x0 t0 x1 x2 x3 x4 x5 v h
    rw [fX3_mostMiddling_23] at h
    dsimp only at h
    refine z_iload F dX3_mostMiddling_23 5 rfl ?_
    refine z_aload_n F dX3_mostMiddling_25 rfl 0 rfl ?_
    refine zg_3_1 F t0 wF_X3_19 dX3_mostMiddling_26 ?_
    refine zg_7_1 F (zt_f tc_3_1 t0) wF_X3_74 dX3_mostMiddling_29 ?_
    refine z_icmp_ge F 70 dX3_mostMiddling_32 rfl (fun hc => ?_) (fun hc => ?_)
    · replace h := zif_t hc h
      refine z_ls [(0, zr G x0), (1, .int x1), (2, .int x2), (3, .int x3), (4, .int x4)] [0, 1, 2, 3, 4] rfl ?_
      exact jX3_mostMiddling_70 x G F hr hk r w K6 hK6 x0 t0 x1 x2 x3 x4 v h
    · replace h := zif_f hc h
      refine z_iload F dX3_mostMiddling_35 4 rfl ?_
      refine z_aload_n F dX3_mostMiddling_37 rfl 0 rfl ?_
      refine zg_3_0 F t0 wF_X3_15 dX3_mostMiddling_38 ?_
      refine z_aload_n F dX3_mostMiddling_41 rfl 0 rfl ?_
      refine zg_3_1 F t0 wF_X3_19 dX3_mostMiddling_42 ?_
      refine z_iload_n F dX3_mostMiddling_45 rfl 3 rfl ?_
      obtain ⟨r_2, v_1, hq46, h⟩ := zbind_ex h
      refine z_callVi F [.int x3] [zr G (zrf x0 0), .int x4] (kX7_onChair x.2.1 G (zrf x0 1) (zt_f tc_3_1 t0) x3 v r_2 v_1 hq46) mI_X7_onChair (c := 7) rfl (zt_f tc_3_1 t0) wM_X3_54 mi_X7_onChair sl_X7_onChair dX3_mostMiddling_46 rfl ⟨Nat.le_of_ble_eq_true rfl, Nat.le_of_ble_eq_true rfl⟩ rfl (Nat.le_of_ble_eq_true rfl) ⟨Nat.zero_le _, Nat.zero_le _⟩ ?_
      refine z_aload_n F dX3_mostMiddling_49 rfl 0 rfl ?_
      refine zg_3_1 F t0 wF_X3_19 dX3_mostMiddling_50 ?_
      refine z_iload F dX3_mostMiddling_53 5 rfl ?_
      obtain ⟨r_4, v_3, hq55, h⟩ := zbind_ex h
      refine z_callVi F [.int x5] [.int r_2, zr G (zrf x0 0), .int x4] (kX7_onChair x.2.1 G (zrf x0 1) (zt_f tc_3_1 t0) x5 v_1 r_4 v_3 hq55) mI_X7_onChair (c := 7) rfl (zt_f tc_3_1 t0) wM_X3_54 mi_X7_onChair sl_X7_onChair dX3_mostMiddling_55 rfl ⟨Nat.le_of_ble_eq_true rfl, Nat.le_of_ble_eq_true rfl⟩ rfl (Nat.le_of_ble_eq_true rfl) ⟨Nat.zero_le _, Nat.zero_le _⟩ ?_
      obtain ⟨r_6, v_5, hq58, h⟩ := zbind_ex h
      refine z_callVi F [.int r_2, .int r_4] [.int x4] (kX0_differing x.2.1 G (zrf x0 0) (zt_f tc_3_0 t0) r_2 r_4 v_3 r_6 v_5 hq58) mI_X0_differing (c := 0) rfl (zt_f tc_3_0 t0) wM_X3_35 mi_X0_differing sl_X0_differing dX3_mostMiddling_58 rfl ⟨Nat.le_of_ble_eq_true rfl, Nat.le_of_ble_eq_true rfl⟩ rfl (Nat.le_of_ble_eq_true rfl) ⟨Nat.zero_le _, Nat.zero_le _⟩ ?_
      refine z_iadd F dX3_mostMiddling_61 ?_
      refine z_istore (n := 0) F [(4, .int (x4 + r_6)), (0, zr G x0), (1, .int x1), (2, .int x2), (3, .int x3), (5, .int x5)] dX3_mostMiddling_62 (Nat.le_of_ble_eq_true rfl) rfl ?_
      refine z_iinc F [(5, .int (x5 + (1 : Int32))), (4, .int (x4 + r_6)), (0, zr G x0), (1, .int x1), (2, .int x2), (3, .int x3)] dX3_mostMiddling_64 5 rfl rfl (Nat.le_of_ble_eq_true rfl) rfl ?_
      refine z_goto F 23 dX3_mostMiddling_67 rfl ?_
      refine z_ls [(0, zr G x0), (1, .int x1), (2, .int x2), (3, .int x3), (4, .int (x4 + r_6)), (5, .int (x5 + (1 : Int32)))] [2, 3, 4, 5, 1, 0] rfl ?_
      exact ih x0 t0 x1 x2 x3 (x4 + r_6) (x5 + (1 : Int32)) v_5 h

def fX3_mostMiddling_6  : Nat → Nat → Int32 → Int32 → Int32 → zV → Option (Int32 × zV)
  | 0 => fun _ _ _ _ _ => none
  | n + 1 => fun x0 x1 x2 x3 v =>
    if (v (zrf x0 1) 1) ≤ x3 then
      some (x1, v)
    else
      fX3_mostMiddling_23 (fX3_mostMiddling_6 n) zFU x0 x1 x2 x3 (0 : Int32) (0 : Int32) v
set_option maxRecDepth 4000 in
theorem jX3_mostMiddling_6 (x : zCx) (G : zG) (F : zF x G cX3_mostMiddling 6 RX3 3 124) (hr : x.2.2.2.2.2.2.2.2.1.sig.returnType = (Option.some FieldType.int)) (hk : x.2.2.2.2.2.2.2.2.1.locks = false) (r : Int32) (w : zV)  : ∀ (n : Nat) (x0 : Nat) (t0 : zty G x0 1 3) (x1 : Int32) (x2 : Int32) (x3 : Int32) (v : zV), fX3_mostMiddling_6 n x0 x1 x2 x3 v = some (r, w) → zJ x G 6 (zQ x G (some (.int r)) w 0 0) 0 0 6 [(0, zr G x0), (1, .int x1), (2, .int x2), (3, .int x3)] [] v := by
  intro n
  induction n with
  | zero => intro x0 t0 x1 x2 x3 v h; exact absurd h (by intro q; cases q)
  | succ n ih =>
    intro x0 t0 x1 x2 x3 v h
    rw [fX3_mostMiddling_6] at h
    dsimp only at h
    refine z_iload_n F dX3_mostMiddling_6 rfl 3 rfl ?_
    refine z_aload_n F dX3_mostMiddling_7 rfl 0 rfl ?_
    refine zg_3_1 F t0 wF_X3_19 dX3_mostMiddling_8 ?_
    refine zg_7_1 F (zt_f tc_3_1 t0) wF_X3_74 dX3_mostMiddling_11 ?_
    refine z_icmp_ge F 99 dX3_mostMiddling_14 rfl (fun hc => ?_) (fun hc => ?_)
    · replace h := zif_t hc h
      refine z_iload_n F dX3_mostMiddling_99 rfl 1 rfl ?_
      cases h
      exact z_reti F hr hk dX3_mostMiddling_100
    · replace h := zif_f hc h
      refine z_iconst (y := (0 : Int32)) F dX3_mostMiddling_17 rfl ?_
      refine z_istore (n := 0) F [(4, .int (0 : Int32)), (0, zr G x0), (1, .int x1), (2, .int x2), (3, .int x3)] dX3_mostMiddling_18 (Nat.le_of_ble_eq_true rfl) rfl ?_
      refine z_iconst (y := (0 : Int32)) F dX3_mostMiddling_20 rfl ?_
      refine z_istore (n := 0) F [(5, .int (0 : Int32)), (4, .int (0 : Int32)), (0, zr G x0), (1, .int x1), (2, .int x2), (3, .int x3)] dX3_mostMiddling_21 (Nat.le_of_ble_eq_true rfl) rfl ?_
      refine z_ls [(0, zr G x0), (1, .int x1), (2, .int x2), (3, .int x3), (4, .int (0 : Int32)), (5, .int (0 : Int32))] [2, 3, 4, 5, 1, 0] rfl ?_
      exact jX3_mostMiddling_23 x G F hr hk r w (fX3_mostMiddling_6 n) ih zFU x0 t0 x1 x2 x3 (0 : Int32) (0 : Int32) v h

def fX3_mostMiddling (x0 : Nat) (v : zV) : Option (Int32 × zV) :=
  fX3_mostMiddling_6  zFU x0 (-1 : Int32) (0 : Int32) (0 : Int32) v
set_option maxRecDepth 4000 in
theorem kX3_mostMiddling (l : Launch) (G : zG) (x0 : Nat) (t0 : zty G x0 1 3) (v : zV) (r : Int32) (w : zV) (h : fX3_mostMiddling x0 v = some (r, w)) : zMet l yX3_mostMiddling cX3_mostMiddling 6 (Option.some FieldType.int) 3 124 0 0 [zr G x0] G v (some (.int r)) w := by
  refine zM_of (own := RX3) (by decide) rfl (Nat.le_of_ble_eq_true rfl) (fun x hl F hr hk hcs => ?_)
  subst hl
  refine z_ls [(0, zr G x0)] [0] rfl ?_
  unfold fX3_mostMiddling at h
  refine z_iconst (y := (-1 : Int32)) F dX3_mostMiddling_0 rfl ?_
  refine z_istore_n F [(1, .int (-1 : Int32)), (0, zr G x0)] dX3_mostMiddling_1 rfl (Nat.le_of_ble_eq_true rfl) rfl ?_
  refine z_iconst (y := (0 : Int32)) F dX3_mostMiddling_2 rfl ?_
  refine z_istore_n F [(2, .int (0 : Int32)), (1, .int (-1 : Int32)), (0, zr G x0)] dX3_mostMiddling_3 rfl (Nat.le_of_ble_eq_true rfl) rfl ?_
  refine z_iconst (y := (0 : Int32)) F dX3_mostMiddling_4 rfl ?_
  refine z_istore_n F [(3, .int (0 : Int32)), (2, .int (0 : Int32)), (1, .int (-1 : Int32)), (0, zr G x0)] dX3_mostMiddling_5 rfl (Nat.le_of_ble_eq_true rfl) rfl ?_
  refine z_ls [(0, zr G x0), (1, .int (-1 : Int32)), (2, .int (0 : Int32)), (3, .int (0 : Int32))] [3, 2, 1, 0] rfl ?_
  exact jX3_mostMiddling_6 x G F hr hk r w   zFU x0 t0 (-1 : Int32) (0 : Int32) (0 : Int32) v h

theorem dX3_leavingFor_0 : decode cX3_leavingFor 0 = .ok (.iconst 0, 1) := by decide +kernel
theorem dX3_leavingFor_1 : decode cX3_leavingFor 1 = .ok (.istore_n 2, 1) := by decide +kernel
theorem dX3_leavingFor_2 : decode cX3_leavingFor 2 = .ok (.iconst 0, 1) := by decide +kernel
theorem dX3_leavingFor_3 : decode cX3_leavingFor 3 = .ok (.istore_n 3, 1) := by decide +kernel
theorem dX3_leavingFor_4 : decode cX3_leavingFor 4 = .ok (.iload_n 3, 1) := by decide +kernel
theorem dX3_leavingFor_5 : decode cX3_leavingFor 5 = .ok (.aload_n 0, 1) := by decide +kernel
theorem dX3_leavingFor_6 : decode cX3_leavingFor 6 = .ok (.getfield 9, 3) := by decide +kernel
theorem dX3_leavingFor_9 : decode cX3_leavingFor 9 = .ok (.arraylength, 1) := by decide +kernel
theorem dX3_leavingFor_10 : decode cX3_leavingFor 10 = .ok (.if_icmp .ge 58, 3) := by decide +kernel
theorem dX3_leavingFor_13 : decode cX3_leavingFor 13 = .ok (.iload_n 3, 1) := by decide +kernel
theorem dX3_leavingFor_14 : decode cX3_leavingFor 14 = .ok (.iload_n 1, 1) := by decide +kernel
theorem dX3_leavingFor_15 : decode cX3_leavingFor 15 = .ok (.if_icmp .ge 16, 3) := by decide +kernel
theorem dX3_leavingFor_18 : decode cX3_leavingFor 18 = .ok (.aload_n 0, 1) := by decide +kernel
theorem dX3_leavingFor_19 : decode cX3_leavingFor 19 = .ok (.getfield 9, 3) := by decide +kernel
theorem dX3_leavingFor_22 : decode cX3_leavingFor 22 = .ok (.iload_n 1, 1) := by decide +kernel
theorem dX3_leavingFor_23 : decode cX3_leavingFor 23 = .ok (.invokestatic 63, 3) := by decide +kernel
theorem dX3_leavingFor_26 : decode cX3_leavingFor 26 = .ok (.iconst 1, 1) := by decide +kernel
theorem dX3_leavingFor_27 : decode cX3_leavingFor 27 = .ok (.isub, 1) := by decide +kernel
theorem dX3_leavingFor_28 : decode cX3_leavingFor 28 = .ok (.goto 11, 3) := by decide +kernel
theorem dX3_leavingFor_31 : decode cX3_leavingFor 31 = .ok (.aload_n 0, 1) := by decide +kernel
theorem dX3_leavingFor_32 : decode cX3_leavingFor 32 = .ok (.getfield 9, 3) := by decide +kernel
theorem dX3_leavingFor_35 : decode cX3_leavingFor 35 = .ok (.iload_n 1, 1) := by decide +kernel
theorem dX3_leavingFor_36 : decode cX3_leavingFor 36 = .ok (.invokestatic 63, 3) := by decide +kernel
theorem dX3_leavingFor_39 : decode cX3_leavingFor 39 = .ok (.istore 4, 2) := by decide +kernel
theorem dX3_leavingFor_41 : decode cX3_leavingFor 41 = .ok (.iload_n 3, 1) := by decide +kernel
theorem dX3_leavingFor_42 : decode cX3_leavingFor 42 = .ok (.iload_n 1, 1) := by decide +kernel
theorem dX3_leavingFor_43 : decode cX3_leavingFor 43 = .ok (.if_icmp .eq 19, 3) := by decide +kernel
theorem dX3_leavingFor_46 : decode cX3_leavingFor 46 = .ok (.iload_n 2, 1) := by decide +kernel
theorem dX3_leavingFor_47 : decode cX3_leavingFor 47 = .ok (.iconst 0, 1) := by decide +kernel
theorem dX3_leavingFor_48 : decode cX3_leavingFor 48 = .ok (.aload_n 0, 1) := by decide +kernel
theorem dX3_leavingFor_49 : decode cX3_leavingFor 49 = .ok (.getfield 9, 3) := by decide +kernel
theorem dX3_leavingFor_52 : decode cX3_leavingFor 52 = .ok (.iload_n 3, 1) := by decide +kernel
theorem dX3_leavingFor_53 : decode cX3_leavingFor 53 = .ok (.iaload, 1) := by decide +kernel
theorem dX3_leavingFor_54 : decode cX3_leavingFor 54 = .ok (.iload 4, 2) := by decide +kernel
theorem dX3_leavingFor_56 : decode cX3_leavingFor 56 = .ok (.isub, 1) := by decide +kernel
theorem dX3_leavingFor_57 : decode cX3_leavingFor 57 = .ok (.invokestatic 85, 3) := by decide +kernel
theorem dX3_leavingFor_60 : decode cX3_leavingFor 60 = .ok (.iadd, 1) := by decide +kernel
theorem dX3_leavingFor_61 : decode cX3_leavingFor 61 = .ok (.istore_n 2, 1) := by decide +kernel
theorem dX3_leavingFor_62 : decode cX3_leavingFor 62 = .ok (.iinc 3 1, 3) := by decide +kernel
theorem dX3_leavingFor_65 : decode cX3_leavingFor 65 = .ok (.goto (-61), 3) := by decide +kernel
theorem dX3_leavingFor_68 : decode cX3_leavingFor 68 = .ok (.iload_n 2, 1) := by decide +kernel
theorem dX3_leavingFor_69 : decode cX3_leavingFor 69 = .ok (.ireturn, 1) := by decide +kernel
def fX3_leavingFor_39 (K4 : Nat → Int32 → Int32 → Int32 → zV → Option (Int32 × zV)) (x0 : Nat) (x1 : Int32) (x2 : Int32) (x3 : Int32) (s0 : Int32) (v : zV) : Option (Int32 × zV) :=
  if x3 = x1 then
    K4 x0 x1 x2 (x3 + (1 : Int32)) v
  else
    zix x3 (zlen (zrf x0 2)) <|
    zlet (x2 + (zmax (0 : Int32) ((v (zrf x0 2) (x3).toNatClampNeg) - s0))) fun y_1 =>
    K4 x0 x1 y_1 (x3 + (1 : Int32)) v
set_option maxRecDepth 4000 in
theorem jX3_leavingFor_39 (x : zCx) (G : zG) (F : zF x G cX3_leavingFor 5 RX3 2 101) (hr : x.2.2.2.2.2.2.2.2.1.sig.returnType = (Option.some FieldType.int)) (hk : x.2.2.2.2.2.2.2.2.1.locks = false) (r : Int32) (w : zV) (K4 : Nat → Int32 → Int32 → Int32 → zV → Option (Int32 × zV)) (hK4 : ∀ (x0 : Nat) (t0 : zty G x0 1 3) (x1 : Int32) (x2 : Int32) (x3 : Int32) (v : zV), K4 x0 x1 x2 x3 v = some (r, w) → zJ x G 5 (zQ x G (some (.int r)) w 0 0) 0 0 4 [(0, zr G x0), (1, .int x1), (2, .int x2), (3, .int x3)] [] v) : ∀ (x0 : Nat) (t0 : zty G x0 1 3) (x1 : Int32) (x2 : Int32) (x3 : Int32) (s0 : Int32) (v : zV), fX3_leavingFor_39 K4 x0 x1 x2 x3 s0 v = some (r, w) → zJ x G 5 (zQ x G (some (.int r)) w 0 0) 0 0 39 [(0, zr G x0), (1, .int x1), (2, .int x2), (3, .int x3)] [.int s0] v := by
  intro x0 t0 x1 x2 x3 s0 v h
  unfold fX3_leavingFor_39 at h
  refine z_istore (n := 0) F [(4, .int s0), (0, zr G x0), (1, .int x1), (2, .int x2), (3, .int x3)] dX3_leavingFor_39 (Nat.le_of_ble_eq_true rfl) rfl ?_
  refine z_iload_n F dX3_leavingFor_41 rfl 4 rfl ?_
  refine z_iload_n F dX3_leavingFor_42 rfl 2 rfl ?_
  refine z_icmp_eq F 62 dX3_leavingFor_43 rfl (fun hc => ?_) (fun hc => ?_)
  · replace h := zif_t hc h
    refine z_iinc F [(3, .int (x3 + (1 : Int32))), (4, .int s0), (0, zr G x0), (1, .int x1), (2, .int x2)] dX3_leavingFor_62 4 rfl rfl (Nat.le_of_ble_eq_true rfl) rfl ?_
    refine z_goto F 4 dX3_leavingFor_65 rfl ?_
    refine z_ls [(0, zr G x0), (1, .int x1), (2, .int x2), (3, .int (x3 + (1 : Int32)))] [2, 3, 4, 0] rfl ?_
    exact hK4 x0 t0 x1 x2 (x3 + (1 : Int32)) v h
  · replace h := zif_f hc h
    refine z_iload_n F dX3_leavingFor_46 rfl 3 rfl ?_
    refine z_iconst (y := (0 : Int32)) F dX3_leavingFor_47 rfl ?_
    refine z_aload_n F dX3_leavingFor_48 rfl 1 rfl ?_
    refine zg_3_2 F t0 wF_X3_9 dX3_leavingFor_49 ?_
    refine z_iload_n F dX3_leavingFor_52 rfl 4 rfl ?_
    obtain ⟨hi53, h⟩ := zix_ex h
    refine z_iald F (zt_f tc_3_2 t0) dX3_leavingFor_53 hi53 ?_
    refine z_iload F dX3_leavingFor_54 0 rfl ?_
    refine z_isub F dX3_leavingFor_56 ?_
    refine z_max F wM_X3_85 dX3_leavingFor_57 (Nat.le_of_ble_eq_true rfl) (Nat.le_of_ble_eq_true rfl) (Nat.le_of_ble_eq_true rfl) ⟨Nat.zero_le _, Nat.zero_le _⟩ ?_
    refine z_iadd F dX3_leavingFor_60 ?_
    obtain ⟨y_1, ey_1, h⟩ := zlet_ex h
    refine z_topi ey_1 ?_
    refine z_istore_n F [(2, .int y_1), (4, .int s0), (0, zr G x0), (1, .int x1), (3, .int x3)] dX3_leavingFor_61 rfl (Nat.le_of_ble_eq_true rfl) rfl ?_
    refine z_iinc F [(3, .int (x3 + (1 : Int32))), (2, .int y_1), (4, .int s0), (0, zr G x0), (1, .int x1)] dX3_leavingFor_62 4 rfl rfl (Nat.le_of_ble_eq_true rfl) rfl ?_
    refine z_goto F 4 dX3_leavingFor_65 rfl ?_
    refine z_ls [(0, zr G x0), (1, .int x1), (2, .int y_1), (3, .int (x3 + (1 : Int32)))] [3, 4, 1, 0] rfl ?_
    exact hK4 x0 t0 x1 y_1 (x3 + (1 : Int32)) v h

def fX3_leavingFor_4  : Nat → Nat → Int32 → Int32 → Int32 → zV → Option (Int32 × zV)
  | 0 => fun _ _ _ _ _ => none
  | n + 1 => fun x0 x1 x2 x3 v =>
    if (Int32.ofNat (zlen (zrf x0 2))) ≤ x3 then
      some (x2, v)
    else
      if x1 ≤ x3 then
        zbind (fX9_get (zrf x0 2) x1 v) fun r_2 v_1 =>
        fX3_leavingFor_39 (fX3_leavingFor_4 n) x0 x1 x2 x3 r_2 v_1
      else
        zbind (fX9_get (zrf x0 2) x1 v) fun r_4 v_3 =>
        fX3_leavingFor_39 (fX3_leavingFor_4 n) x0 x1 x2 x3 (r_4 - (1 : Int32)) v_3
set_option maxRecDepth 4000 in
theorem jX3_leavingFor_4 (x : zCx) (G : zG) (F : zF x G cX3_leavingFor 5 RX3 2 101) (hr : x.2.2.2.2.2.2.2.2.1.sig.returnType = (Option.some FieldType.int)) (hk : x.2.2.2.2.2.2.2.2.1.locks = false) (r : Int32) (w : zV)  : ∀ (n : Nat) (x0 : Nat) (t0 : zty G x0 1 3) (x1 : Int32) (x2 : Int32) (x3 : Int32) (v : zV), fX3_leavingFor_4 n x0 x1 x2 x3 v = some (r, w) → zJ x G 5 (zQ x G (some (.int r)) w 0 0) 0 0 4 [(0, zr G x0), (1, .int x1), (2, .int x2), (3, .int x3)] [] v := by
  intro n
  induction n with
  | zero => intro x0 t0 x1 x2 x3 v h; exact absurd h (by intro q; cases q)
  | succ n ih =>
    intro x0 t0 x1 x2 x3 v h
    rw [fX3_leavingFor_4] at h
    dsimp only at h
    refine z_iload_n F dX3_leavingFor_4 rfl 3 rfl ?_
    refine z_aload_n F dX3_leavingFor_5 rfl 0 rfl ?_
    refine zg_3_2 F t0 wF_X3_9 dX3_leavingFor_6 ?_
    refine z_alen0 F (zt_f tc_3_2 t0) dX3_leavingFor_9 rfl ?_
    refine z_icmp_ge F 68 dX3_leavingFor_10 rfl (fun hc => ?_) (fun hc => ?_)
    · replace h := zif_t hc h
      refine z_iload_n F dX3_leavingFor_68 rfl 2 rfl ?_
      cases h
      exact z_reti F hr hk dX3_leavingFor_69
    · replace h := zif_f hc h
      refine z_iload_n F dX3_leavingFor_13 rfl 3 rfl ?_
      refine z_iload_n F dX3_leavingFor_14 rfl 1 rfl ?_
      refine z_icmp_ge F 31 dX3_leavingFor_15 rfl (fun hc => ?_) (fun hc => ?_)
      · replace h := zif_t hc h
        refine z_aload_n F dX3_leavingFor_31 rfl 0 rfl ?_
        refine zg_3_2 F t0 wF_X3_9 dX3_leavingFor_32 ?_
        refine z_iload_n F dX3_leavingFor_35 rfl 1 rfl ?_
        obtain ⟨r_2, v_1, hq36, h⟩ := zbind_ex h
        refine z_callSNi F [zr G (zrf x0 2), .int x1] [] (kX9_get x.2.1 G (zrf x0 2) (zt_f tc_3_2 t0) x1 v r_2 v_1 hq36) mI_X9_get wN_X3_63 ms_X9_get dX3_leavingFor_36 rfl ⟨Nat.le_of_ble_eq_true rfl, Nat.le_of_ble_eq_true rfl⟩ rfl (Nat.le_of_ble_eq_true rfl) ⟨Nat.zero_le _, Nat.zero_le _⟩ ?_
        refine z_ls [(0, zr G x0), (1, .int x1), (2, .int x2), (3, .int x3)] [0, 1, 2, 3] rfl ?_
        exact jX3_leavingFor_39 x G F hr hk r w (fX3_leavingFor_4 n) ih x0 t0 x1 x2 x3 r_2 v_1 h
      · replace h := zif_f hc h
        refine z_aload_n F dX3_leavingFor_18 rfl 0 rfl ?_
        refine zg_3_2 F t0 wF_X3_9 dX3_leavingFor_19 ?_
        refine z_iload_n F dX3_leavingFor_22 rfl 1 rfl ?_
        obtain ⟨r_4, v_3, hq23, h⟩ := zbind_ex h
        refine z_callSNi F [zr G (zrf x0 2), .int x1] [] (kX9_get x.2.1 G (zrf x0 2) (zt_f tc_3_2 t0) x1 v r_4 v_3 hq23) mI_X9_get wN_X3_63 ms_X9_get dX3_leavingFor_23 rfl ⟨Nat.le_of_ble_eq_true rfl, Nat.le_of_ble_eq_true rfl⟩ rfl (Nat.le_of_ble_eq_true rfl) ⟨Nat.zero_le _, Nat.zero_le _⟩ ?_
        refine z_iconst (y := (1 : Int32)) F dX3_leavingFor_26 rfl ?_
        refine z_isub F dX3_leavingFor_27 ?_
        refine z_goto F 39 dX3_leavingFor_28 rfl ?_
        refine z_ls [(0, zr G x0), (1, .int x1), (2, .int x2), (3, .int x3)] [0, 1, 2, 3] rfl ?_
        exact jX3_leavingFor_39 x G F hr hk r w (fX3_leavingFor_4 n) ih x0 t0 x1 x2 x3 (r_4 - (1 : Int32)) v_3 h

def fX3_leavingFor (x0 : Nat) (x1 : Int32) (v : zV) : Option (Int32 × zV) :=
  fX3_leavingFor_4  zFU x0 x1 (0 : Int32) (0 : Int32) v
set_option maxRecDepth 4000 in
theorem kX3_leavingFor (l : Launch) (G : zG) (x0 : Nat) (t0 : zty G x0 1 3) (x1 : Int32) (v : zV) (r : Int32) (w : zV) (h : fX3_leavingFor x0 x1 v = some (r, w)) : zMet l yX3_leavingFor cX3_leavingFor 5 (Option.some FieldType.int) 2 101 0 0 [zr G x0, .int x1] G v (some (.int r)) w := by
  refine zM_of (own := RX3) (by decide) rfl (Nat.le_of_ble_eq_true rfl) (fun x hl F hr hk hcs => ?_)
  subst hl
  refine z_ls [(0, zr G x0), (1, .int x1)] [0, 1] rfl ?_
  unfold fX3_leavingFor at h
  refine z_iconst (y := (0 : Int32)) F dX3_leavingFor_0 rfl ?_
  refine z_istore_n F [(2, .int (0 : Int32)), (0, zr G x0), (1, .int x1)] dX3_leavingFor_1 rfl (Nat.le_of_ble_eq_true rfl) rfl ?_
  refine z_iconst (y := (0 : Int32)) F dX3_leavingFor_2 rfl ?_
  refine z_istore_n F [(3, .int (0 : Int32)), (2, .int (0 : Int32)), (0, zr G x0), (1, .int x1)] dX3_leavingFor_3 rfl (Nat.le_of_ble_eq_true rfl) rfl ?_
  refine z_ls [(0, zr G x0), (1, .int x1), (2, .int (0 : Int32)), (3, .int (0 : Int32))] [2, 3, 1, 0] rfl ?_
  exact jX3_leavingFor_4 x G F hr hk r w   zFU x0 t0 x1 (0 : Int32) (0 : Int32) v h

theorem dX3_fewestToFlip_0 : decode cX3_fewestToFlip 0 = .ok (.aload_n 0, 1) := by decide +kernel
theorem dX3_fewestToFlip_1 : decode cX3_fewestToFlip 1 = .ok (.iload_n 1, 1) := by decide +kernel
theorem dX3_fewestToFlip_2 : decode cX3_fewestToFlip 2 = .ok (.iconst 1, 1) := by decide +kernel
theorem dX3_fewestToFlip_3 : decode cX3_fewestToFlip 3 = .ok (.iconst 0, 1) := by decide +kernel
theorem dX3_fewestToFlip_4 : decode cX3_fewestToFlip 4 = .ok (.invokevirtual 88, 3) := by decide +kernel
theorem dX3_fewestToFlip_7 : decode cX3_fewestToFlip 7 = .ok (.istore_n 2, 1) := by decide +kernel
theorem dX3_fewestToFlip_8 : decode cX3_fewestToFlip 8 = .ok (.iconst (-1), 1) := by decide +kernel
theorem dX3_fewestToFlip_9 : decode cX3_fewestToFlip 9 = .ok (.istore_n 3, 1) := by decide +kernel
theorem dX3_fewestToFlip_10 : decode cX3_fewestToFlip 10 = .ok (.iconst 0, 1) := by decide +kernel
theorem dX3_fewestToFlip_11 : decode cX3_fewestToFlip 11 = .ok (.istore 4, 2) := by decide +kernel
theorem dX3_fewestToFlip_13 : decode cX3_fewestToFlip 13 = .ok (.iload 4, 2) := by decide +kernel
theorem dX3_fewestToFlip_15 : decode cX3_fewestToFlip 15 = .ok (.aload_n 0, 1) := by decide +kernel
theorem dX3_fewestToFlip_16 : decode cX3_fewestToFlip 16 = .ok (.getfield 9, 3) := by decide +kernel
theorem dX3_fewestToFlip_19 : decode cX3_fewestToFlip 19 = .ok (.arraylength, 1) := by decide +kernel
theorem dX3_fewestToFlip_20 : decode cX3_fewestToFlip 20 = .ok (.if_icmp .ge 47, 3) := by decide +kernel
theorem dX3_fewestToFlip_23 : decode cX3_fewestToFlip 23 = .ok (.aload_n 0, 1) := by decide +kernel
theorem dX3_fewestToFlip_24 : decode cX3_fewestToFlip 24 = .ok (.iload 4, 2) := by decide +kernel
theorem dX3_fewestToFlip_26 : decode cX3_fewestToFlip 26 = .ok (.invokevirtual 92, 3) := by decide +kernel
theorem dX3_fewestToFlip_29 : decode cX3_fewestToFlip 29 = .ok (.istore 5, 2) := by decide +kernel
theorem dX3_fewestToFlip_31 : decode cX3_fewestToFlip 31 = .ok (.iload 4, 2) := by decide +kernel
theorem dX3_fewestToFlip_33 : decode cX3_fewestToFlip 33 = .ok (.iload_n 2, 1) := by decide +kernel
theorem dX3_fewestToFlip_34 : decode cX3_fewestToFlip 34 = .ok (.if_icmp .eq 27, 3) := by decide +kernel
theorem dX3_fewestToFlip_37 : decode cX3_fewestToFlip 37 = .ok (.aload_n 0, 1) := by decide +kernel
theorem dX3_fewestToFlip_38 : decode cX3_fewestToFlip 38 = .ok (.getfield 9, 3) := by decide +kernel
theorem dX3_fewestToFlip_41 : decode cX3_fewestToFlip 41 = .ok (.iload 4, 2) := by decide +kernel
theorem dX3_fewestToFlip_43 : decode cX3_fewestToFlip 43 = .ok (.iaload, 1) := by decide +kernel
theorem dX3_fewestToFlip_44 : decode cX3_fewestToFlip 44 = .ok (.ifCond .le 17, 3) := by decide +kernel
theorem dX3_fewestToFlip_47 : decode cX3_fewestToFlip 47 = .ok (.iload_n 3, 1) := by decide +kernel
theorem dX3_fewestToFlip_48 : decode cX3_fewestToFlip 48 = .ok (.iconst (-1), 1) := by decide +kernel
theorem dX3_fewestToFlip_49 : decode cX3_fewestToFlip 49 = .ok (.if_icmp .eq 9, 3) := by decide +kernel
theorem dX3_fewestToFlip_52 : decode cX3_fewestToFlip 52 = .ok (.iload 5, 2) := by decide +kernel
theorem dX3_fewestToFlip_54 : decode cX3_fewestToFlip 54 = .ok (.iload_n 3, 1) := by decide +kernel
theorem dX3_fewestToFlip_55 : decode cX3_fewestToFlip 55 = .ok (.if_icmp .ge 6, 3) := by decide +kernel
theorem dX3_fewestToFlip_58 : decode cX3_fewestToFlip 58 = .ok (.iload 5, 2) := by decide +kernel
theorem dX3_fewestToFlip_60 : decode cX3_fewestToFlip 60 = .ok (.istore_n 3, 1) := by decide +kernel
theorem dX3_fewestToFlip_61 : decode cX3_fewestToFlip 61 = .ok (.iinc 4 1, 3) := by decide +kernel
theorem dX3_fewestToFlip_64 : decode cX3_fewestToFlip 64 = .ok (.goto (-51), 3) := by decide +kernel
theorem dX3_fewestToFlip_67 : decode cX3_fewestToFlip 67 = .ok (.iload_n 3, 1) := by decide +kernel
theorem dX3_fewestToFlip_68 : decode cX3_fewestToFlip 68 = .ok (.ireturn, 1) := by decide +kernel
def fX3_fewestToFlip_13  : Nat → Nat → Int32 → Int32 → Int32 → zV → Option (Int32 × zV)
  | 0 => fun _ _ _ _ _ => none
  | n + 1 => fun x0 x2 x3 x4 v =>
    if (Int32.ofNat (zlen (zrf x0 2))) ≤ x4 then
      some (x3, v)
    else
      zbind (fX3_leavingFor x0 x4 v) fun r_2 v_1 =>
      if x4 = x2 then
        (fX3_fewestToFlip_13 n) x0 x2 x3 (x4 + (1 : Int32)) v_1
      else
        zix x4 (zlen (zrf x0 2)) <|
        if (v_1 (zrf x0 2) (x4).toNatClampNeg) ≤ (0 : Int32) then
          (fX3_fewestToFlip_13 n) x0 x2 x3 (x4 + (1 : Int32)) v_1
        else
          if x3 = (-1 : Int32) then
            (fX3_fewestToFlip_13 n) x0 x2 r_2 (x4 + (1 : Int32)) v_1
          else
            if x3 ≤ r_2 then
              (fX3_fewestToFlip_13 n) x0 x2 x3 (x4 + (1 : Int32)) v_1
            else
              (fX3_fewestToFlip_13 n) x0 x2 r_2 (x4 + (1 : Int32)) v_1
set_option maxRecDepth 4000 in
theorem jX3_fewestToFlip_13 (x : zCx) (G : zG) (F : zF x G cX3_fewestToFlip 6 RX3 6 192) (hr : x.2.2.2.2.2.2.2.2.1.sig.returnType = (Option.some FieldType.int)) (hk : x.2.2.2.2.2.2.2.2.1.locks = false) (r : Int32) (w : zV)  : ∀ (n : Nat) (x0 : Nat) (t0 : zty G x0 1 3) (x2 : Int32) (x3 : Int32) (x4 : Int32) (v : zV), fX3_fewestToFlip_13 n x0 x2 x3 x4 v = some (r, w) → zJ x G 6 (zQ x G (some (.int r)) w 0 0) 0 0 13 [(0, zr G x0), (2, .int x2), (3, .int x3), (4, .int x4)] [] v := by
  intro n
  induction n with
  | zero => intro x0 t0 x2 x3 x4 v h; exact absurd h (by intro q; cases q)
  | succ n ih =>
    intro x0 t0 x2 x3 x4 v h
    rw [fX3_fewestToFlip_13] at h
    dsimp only at h
    refine z_iload F dX3_fewestToFlip_13 3 rfl ?_
    refine z_aload_n F dX3_fewestToFlip_15 rfl 0 rfl ?_
    refine zg_3_2 F t0 wF_X3_9 dX3_fewestToFlip_16 ?_
    refine z_alen0 F (zt_f tc_3_2 t0) dX3_fewestToFlip_19 rfl ?_
    refine z_icmp_ge F 67 dX3_fewestToFlip_20 rfl (fun hc => ?_) (fun hc => ?_)
    · replace h := zif_t hc h
      refine z_iload_n F dX3_fewestToFlip_67 rfl 2 rfl ?_
      cases h
      exact z_reti F hr hk dX3_fewestToFlip_68
    · replace h := zif_f hc h
      refine z_aload_n F dX3_fewestToFlip_23 rfl 0 rfl ?_
      refine z_iload F dX3_fewestToFlip_24 3 rfl ?_
      obtain ⟨r_2, v_1, hq26, h⟩ := zbind_ex h
      refine z_callVi F [.int x4] [] (kX3_leavingFor x.2.1 G x0 t0 x4 v r_2 v_1 hq26) mI_X3_leavingFor (c := 3) rfl t0 wM_X3_92 mi_X3_leavingFor sl_X3_leavingFor dX3_fewestToFlip_26 rfl ⟨Nat.le_of_ble_eq_true rfl, Nat.le_of_ble_eq_true rfl⟩ rfl (Nat.le_of_ble_eq_true rfl) ⟨Nat.zero_le _, Nat.zero_le _⟩ ?_
      refine z_istore (n := 0) F [(5, .int r_2), (0, zr G x0), (2, .int x2), (3, .int x3), (4, .int x4)] dX3_fewestToFlip_29 (Nat.le_of_ble_eq_true rfl) rfl ?_
      refine z_iload F dX3_fewestToFlip_31 4 rfl ?_
      refine z_iload_n F dX3_fewestToFlip_33 rfl 2 rfl ?_
      refine z_icmp_eq F 61 dX3_fewestToFlip_34 rfl (fun hc => ?_) (fun hc => ?_)
      · replace h := zif_t hc h
        refine z_iinc F [(4, .int (x4 + (1 : Int32))), (5, .int r_2), (0, zr G x0), (2, .int x2), (3, .int x3)] dX3_fewestToFlip_61 4 rfl rfl (Nat.le_of_ble_eq_true rfl) rfl ?_
        refine z_goto F 13 dX3_fewestToFlip_64 rfl ?_
        refine z_ls [(0, zr G x0), (2, .int x2), (3, .int x3), (4, .int (x4 + (1 : Int32)))] [2, 3, 4, 0] rfl ?_
        exact ih x0 t0 x2 x3 (x4 + (1 : Int32)) v_1 h
      · replace h := zif_f hc h
        refine z_aload_n F dX3_fewestToFlip_37 rfl 1 rfl ?_
        refine zg_3_2 F t0 wF_X3_9 dX3_fewestToFlip_38 ?_
        refine z_iload F dX3_fewestToFlip_41 4 rfl ?_
        obtain ⟨hi43, h⟩ := zix_ex h
        refine z_iald F (zt_f tc_3_2 t0) dX3_fewestToFlip_43 hi43 ?_
        refine z_if_le F 61 dX3_fewestToFlip_44 rfl (fun hc => ?_) (fun hc => ?_)
        · replace h := zif_t hc h
          refine z_iinc F [(4, .int (x4 + (1 : Int32))), (5, .int r_2), (0, zr G x0), (2, .int x2), (3, .int x3)] dX3_fewestToFlip_61 4 rfl rfl (Nat.le_of_ble_eq_true rfl) rfl ?_
          refine z_goto F 13 dX3_fewestToFlip_64 rfl ?_
          refine z_ls [(0, zr G x0), (2, .int x2), (3, .int x3), (4, .int (x4 + (1 : Int32)))] [2, 3, 4, 0] rfl ?_
          exact ih x0 t0 x2 x3 (x4 + (1 : Int32)) v_1 h
        · replace h := zif_f hc h
          refine z_iload_n F dX3_fewestToFlip_47 rfl 3 rfl ?_
          refine z_iconst (y := (-1 : Int32)) F dX3_fewestToFlip_48 rfl ?_
          refine z_icmp_eq F 58 dX3_fewestToFlip_49 rfl (fun hc => ?_) (fun hc => ?_)
          · replace h := zif_t hc h
            refine z_iload F dX3_fewestToFlip_58 0 rfl ?_
            refine z_istore_n F [(3, .int r_2), (5, .int r_2), (0, zr G x0), (2, .int x2), (4, .int x4)] dX3_fewestToFlip_60 rfl (Nat.le_of_ble_eq_true rfl) rfl ?_
            refine z_iinc F [(4, .int (x4 + (1 : Int32))), (3, .int r_2), (5, .int r_2), (0, zr G x0), (2, .int x2)] dX3_fewestToFlip_61 4 rfl rfl (Nat.le_of_ble_eq_true rfl) rfl ?_
            refine z_goto F 13 dX3_fewestToFlip_64 rfl ?_
            refine z_ls [(0, zr G x0), (2, .int x2), (3, .int r_2), (4, .int (x4 + (1 : Int32)))] [3, 4, 1, 0] rfl ?_
            exact ih x0 t0 x2 r_2 (x4 + (1 : Int32)) v_1 h
          · replace h := zif_f hc h
            refine z_iload F dX3_fewestToFlip_52 0 rfl ?_
            refine z_iload_n F dX3_fewestToFlip_54 rfl 3 rfl ?_
            refine z_icmp_ge F 61 dX3_fewestToFlip_55 rfl (fun hc => ?_) (fun hc => ?_)
            · replace h := zif_t hc h
              refine z_iinc F [(4, .int (x4 + (1 : Int32))), (5, .int r_2), (0, zr G x0), (2, .int x2), (3, .int x3)] dX3_fewestToFlip_61 4 rfl rfl (Nat.le_of_ble_eq_true rfl) rfl ?_
              refine z_goto F 13 dX3_fewestToFlip_64 rfl ?_
              refine z_ls [(0, zr G x0), (2, .int x2), (3, .int x3), (4, .int (x4 + (1 : Int32)))] [2, 3, 4, 0] rfl ?_
              exact ih x0 t0 x2 x3 (x4 + (1 : Int32)) v_1 h
            · replace h := zif_f hc h
              refine z_iload F dX3_fewestToFlip_58 0 rfl ?_
              refine z_istore_n F [(3, .int r_2), (5, .int r_2), (0, zr G x0), (2, .int x2), (4, .int x4)] dX3_fewestToFlip_60 rfl (Nat.le_of_ble_eq_true rfl) rfl ?_
              refine z_iinc F [(4, .int (x4 + (1 : Int32))), (3, .int r_2), (5, .int r_2), (0, zr G x0), (2, .int x2)] dX3_fewestToFlip_61 4 rfl rfl (Nat.le_of_ble_eq_true rfl) rfl ?_
              refine z_goto F 13 dX3_fewestToFlip_64 rfl ?_
              refine z_ls [(0, zr G x0), (2, .int x2), (3, .int r_2), (4, .int (x4 + (1 : Int32)))] [3, 4, 1, 0] rfl ?_
              exact ih x0 t0 x2 r_2 (x4 + (1 : Int32)) v_1 h

def fX3_fewestToFlip (x0 : Nat) (x1 : Int32) (v : zV) : Option (Int32 × zV) :=
  zbind (fX3_voteBy x0 x1 (1 : Int32) (0 : Int32) v) fun r_2 v_1 =>
  fX3_fewestToFlip_13  zFU x0 r_2 (-1 : Int32) (0 : Int32) v_1
set_option maxRecDepth 4000 in
theorem kX3_fewestToFlip (l : Launch) (G : zG) (x0 : Nat) (t0 : zty G x0 1 3) (x1 : Int32) (v : zV) (r : Int32) (w : zV) (h : fX3_fewestToFlip x0 x1 v = some (r, w)) : zMet l yX3_fewestToFlip cX3_fewestToFlip 6 (Option.some FieldType.int) 6 192 0 0 [zr G x0, .int x1] G v (some (.int r)) w := by
  refine zM_of (own := RX3) (by decide) rfl (Nat.le_of_ble_eq_true rfl) (fun x hl F hr hk hcs => ?_)
  subst hl
  refine z_ls [(0, zr G x0), (1, .int x1)] [0, 1] rfl ?_
  unfold fX3_fewestToFlip at h
  refine z_aload_n F dX3_fewestToFlip_0 rfl 0 rfl ?_
  refine z_iload_n F dX3_fewestToFlip_1 rfl 1 rfl ?_
  refine z_iconst (y := (1 : Int32)) F dX3_fewestToFlip_2 rfl ?_
  refine z_iconst (y := (0 : Int32)) F dX3_fewestToFlip_3 rfl ?_
  obtain ⟨r_2, v_1, hq4, h⟩ := zbind_ex h
  refine z_callVi F [.int x1, .int (1 : Int32), .int (0 : Int32)] [] (kX3_voteBy x.2.1 G x0 t0 x1 (1 : Int32) (0 : Int32) v r_2 v_1 hq4) mI_X3_voteBy (c := 3) rfl t0 wM_X3_88 mi_X3_voteBy sl_X3_voteBy dX3_fewestToFlip_4 rfl ⟨Nat.le_of_ble_eq_true rfl, Nat.le_of_ble_eq_true rfl⟩ rfl (Nat.le_of_ble_eq_true rfl) ⟨Nat.zero_le _, Nat.zero_le _⟩ ?_
  refine z_istore_n F [(2, .int r_2), (0, zr G x0), (1, .int x1)] dX3_fewestToFlip_7 rfl (Nat.le_of_ble_eq_true rfl) rfl ?_
  refine z_iconst (y := (-1 : Int32)) F dX3_fewestToFlip_8 rfl ?_
  refine z_istore_n F [(3, .int (-1 : Int32)), (2, .int r_2), (0, zr G x0), (1, .int x1)] dX3_fewestToFlip_9 rfl (Nat.le_of_ble_eq_true rfl) rfl ?_
  refine z_iconst (y := (0 : Int32)) F dX3_fewestToFlip_10 rfl ?_
  refine z_istore (n := 0) F [(4, .int (0 : Int32)), (3, .int (-1 : Int32)), (2, .int r_2), (0, zr G x0), (1, .int x1)] dX3_fewestToFlip_11 (Nat.le_of_ble_eq_true rfl) rfl ?_
  refine z_ls [(0, zr G x0), (2, .int r_2), (3, .int (-1 : Int32)), (4, .int (0 : Int32))] [3, 2, 1, 0] rfl ?_
  exact jX3_fewestToFlip_13 x G F hr hk r w   zFU x0 t0 r_2 (-1 : Int32) (0 : Int32) v_1 h

theorem dX3_quorumOf_0 : decode cX3_quorumOf 0 = .ok (.aload_n 0, 1) := by decide +kernel
theorem dX3_quorumOf_1 : decode cX3_quorumOf 1 = .ok (.iload_n 1, 1) := by decide +kernel
theorem dX3_quorumOf_2 : decode cX3_quorumOf 2 = .ok (.iconst 1, 1) := by decide +kernel
theorem dX3_quorumOf_3 : decode cX3_quorumOf 3 = .ok (.iconst 0, 1) := by decide +kernel
theorem dX3_quorumOf_4 : decode cX3_quorumOf 4 = .ok (.invokevirtual 88, 3) := by decide +kernel
theorem dX3_quorumOf_7 : decode cX3_quorumOf 7 = .ok (.istore_n 2, 1) := by decide +kernel
theorem dX3_quorumOf_8 : decode cX3_quorumOf 8 = .ok (.iconst 0, 1) := by decide +kernel
theorem dX3_quorumOf_9 : decode cX3_quorumOf 9 = .ok (.istore_n 3, 1) := by decide +kernel
theorem dX3_quorumOf_10 : decode cX3_quorumOf 10 = .ok (.aload_n 0, 1) := by decide +kernel
theorem dX3_quorumOf_11 : decode cX3_quorumOf 11 = .ok (.invokevirtual 71, 3) := by decide +kernel
theorem dX3_quorumOf_14 : decode cX3_quorumOf 14 = .ok (.iconst 0, 1) := by decide +kernel
theorem dX3_quorumOf_15 : decode cX3_quorumOf 15 = .ok (.istore 4, 2) := by decide +kernel
theorem dX3_quorumOf_17 : decode cX3_quorumOf 17 = .ok (.iload 4, 2) := by decide +kernel
theorem dX3_quorumOf_19 : decode cX3_quorumOf 19 = .ok (.aload_n 0, 1) := by decide +kernel
theorem dX3_quorumOf_20 : decode cX3_quorumOf 20 = .ok (.getfield 19, 3) := by decide +kernel
theorem dX3_quorumOf_23 : decode cX3_quorumOf 23 = .ok (.getfield 74, 3) := by decide +kernel
theorem dX3_quorumOf_26 : decode cX3_quorumOf 26 = .ok (.if_icmp .ge 50, 3) := by decide +kernel
theorem dX3_quorumOf_29 : decode cX3_quorumOf 29 = .ok (.iload_n 3, 1) := by decide +kernel
theorem dX3_quorumOf_30 : decode cX3_quorumOf 30 = .ok (.ifCond .le 7, 3) := by decide +kernel
theorem dX3_quorumOf_33 : decode cX3_quorumOf 33 = .ok (.iconst 1, 1) := by decide +kernel
theorem dX3_quorumOf_34 : decode cX3_quorumOf 34 = .ok (.goto 4, 3) := by decide +kernel
theorem dX3_quorumOf_37 : decode cX3_quorumOf 37 = .ok (.iconst 0, 1) := by decide +kernel
theorem dX3_quorumOf_38 : decode cX3_quorumOf 38 = .ok (.istore 5, 2) := by decide +kernel
theorem dX3_quorumOf_40 : decode cX3_quorumOf 40 = .ok (.aload_n 0, 1) := by decide +kernel
theorem dX3_quorumOf_41 : decode cX3_quorumOf 41 = .ok (.iload 4, 2) := by decide +kernel
theorem dX3_quorumOf_43 : decode cX3_quorumOf 43 = .ok (.iload_n 1, 1) := by decide +kernel
theorem dX3_quorumOf_44 : decode cX3_quorumOf 44 = .ok (.invokevirtual 77, 3) := by decide +kernel
theorem dX3_quorumOf_47 : decode cX3_quorumOf 47 = .ok (.aload_n 0, 1) := by decide +kernel
theorem dX3_quorumOf_48 : decode cX3_quorumOf 48 = .ok (.invokevirtual 81, 3) := by decide +kernel
theorem dX3_quorumOf_51 : decode cX3_quorumOf 51 = .ok (.iload_n 2, 1) := by decide +kernel
theorem dX3_quorumOf_52 : decode cX3_quorumOf 52 = .ok (.if_icmp .eq 8, 3) := by decide +kernel
theorem dX3_quorumOf_55 : decode cX3_quorumOf 55 = .ok (.iconst 0, 1) := by decide +kernel
theorem dX3_quorumOf_56 : decode cX3_quorumOf 56 = .ok (.istore_n 3, 1) := by decide +kernel
theorem dX3_quorumOf_57 : decode cX3_quorumOf 57 = .ok (.goto 13, 3) := by decide +kernel
theorem dX3_quorumOf_60 : decode cX3_quorumOf 60 = .ok (.iload 5, 2) := by decide +kernel
theorem dX3_quorumOf_62 : decode cX3_quorumOf 62 = .ok (.ifCond .ne 8, 3) := by decide +kernel
theorem dX3_quorumOf_65 : decode cX3_quorumOf 65 = .ok (.iload 4, 2) := by decide +kernel
theorem dX3_quorumOf_67 : decode cX3_quorumOf 67 = .ok (.iconst 1, 1) := by decide +kernel
theorem dX3_quorumOf_68 : decode cX3_quorumOf 68 = .ok (.iadd, 1) := by decide +kernel
theorem dX3_quorumOf_69 : decode cX3_quorumOf 69 = .ok (.istore_n 3, 1) := by decide +kernel
theorem dX3_quorumOf_70 : decode cX3_quorumOf 70 = .ok (.iinc 4 1, 3) := by decide +kernel
theorem dX3_quorumOf_73 : decode cX3_quorumOf 73 = .ok (.goto (-56), 3) := by decide +kernel
theorem dX3_quorumOf_76 : decode cX3_quorumOf 76 = .ok (.iload_n 3, 1) := by decide +kernel
theorem dX3_quorumOf_77 : decode cX3_quorumOf 77 = .ok (.ireturn, 1) := by decide +kernel
def fX3_quorumOf_38 (K17 : Nat → Int32 → Int32 → Int32 → Int32 → zV → Option (Int32 × zV)) (x0 : Nat) (x1 : Int32) (x2 : Int32) (x3 : Int32) (x4 : Int32) (s0 : Int32) (v : zV) : Option (Int32 × zV) :=
  zbindv (fX3_addToTally x0 x4 x1 v) fun v_1 =>
  zbind (fX3_leadingSide x0 v_1) fun r_3 v_2 =>
  if r_3 = x2 then
    if s0 = (0 : Int32) then
      K17 x0 x1 x2 (x4 + (1 : Int32)) (x4 + (1 : Int32)) v_2
    else
      K17 x0 x1 x2 x3 (x4 + (1 : Int32)) v_2
  else
    K17 x0 x1 x2 (0 : Int32) (x4 + (1 : Int32)) v_2
set_option maxRecDepth 4000 in
theorem jX3_quorumOf_38 (x : zCx) (G : zG) (F : zF x G cX3_quorumOf 6 RX3 6 192) (hr : x.2.2.2.2.2.2.2.2.1.sig.returnType = (Option.some FieldType.int)) (hk : x.2.2.2.2.2.2.2.2.1.locks = false) (r : Int32) (w : zV) (K17 : Nat → Int32 → Int32 → Int32 → Int32 → zV → Option (Int32 × zV)) (hK17 : ∀ (x0 : Nat) (t0 : zty G x0 1 3) (x1 : Int32) (x2 : Int32) (x3 : Int32) (x4 : Int32) (v : zV), K17 x0 x1 x2 x3 x4 v = some (r, w) → zJ x G 6 (zQ x G (some (.int r)) w 0 0) 0 0 17 [(0, zr G x0), (1, .int x1), (2, .int x2), (3, .int x3), (4, .int x4)] [] v) : ∀ (x0 : Nat) (t0 : zty G x0 1 3) (x1 : Int32) (x2 : Int32) (x3 : Int32) (x4 : Int32) (s0 : Int32) (v : zV), fX3_quorumOf_38 K17 x0 x1 x2 x3 x4 s0 v = some (r, w) → zJ x G 6 (zQ x G (some (.int r)) w 0 0) 0 0 38 [(0, zr G x0), (1, .int x1), (2, .int x2), (3, .int x3), (4, .int x4)] [.int s0] v := by
  intro x0 t0 x1 x2 x3 x4 s0 v h
  unfold fX3_quorumOf_38 at h
  refine z_istore (n := 0) F [(5, .int s0), (0, zr G x0), (1, .int x1), (2, .int x2), (3, .int x3), (4, .int x4)] dX3_quorumOf_38 (Nat.le_of_ble_eq_true rfl) rfl ?_
  refine z_aload_n F dX3_quorumOf_40 rfl 1 rfl ?_
  refine z_iload F dX3_quorumOf_41 5 rfl ?_
  refine z_iload_n F dX3_quorumOf_43 rfl 2 rfl ?_
  obtain ⟨v_1, hq44, h⟩ := zbindv_ex h
  refine z_callVv F [.int x4, .int x1] [] (kX3_addToTally x.2.1 G x0 t0 x4 x1 v v_1 hq44) mI_X3_addToTally (c := 3) rfl t0 wM_X3_77 mi_X3_addToTally sl_X3_addToTally dX3_quorumOf_44 rfl ⟨Nat.le_of_ble_eq_true rfl, Nat.le_of_ble_eq_true rfl⟩ rfl (Nat.le_of_ble_eq_true rfl) ⟨Nat.zero_le _, Nat.zero_le _⟩ ?_
  refine z_aload_n F dX3_quorumOf_47 rfl 1 rfl ?_
  obtain ⟨r_3, v_2, hq48, h⟩ := zbind_ex h
  refine z_callVi F [] [] (kX3_leadingSide x.2.1 G x0 t0 v_1 r_3 v_2 hq48) mI_X3_leadingSide (c := 3) rfl t0 wM_X3_81 mi_X3_leadingSide sl_X3_leadingSide dX3_quorumOf_48 rfl ⟨Nat.le_of_ble_eq_true rfl, Nat.le_of_ble_eq_true rfl⟩ rfl (Nat.le_of_ble_eq_true rfl) ⟨Nat.zero_le _, Nat.zero_le _⟩ ?_
  refine z_iload_n F dX3_quorumOf_51 rfl 3 rfl ?_
  refine z_icmp_eq F 60 dX3_quorumOf_52 rfl (fun hc => ?_) (fun hc => ?_)
  · replace h := zif_t hc h
    refine z_iload F dX3_quorumOf_60 0 rfl ?_
    refine z_if_ne F 70 dX3_quorumOf_62 rfl (fun hc => ?_) (fun hc => ?_)
    · replace h := zif_f hc h
      refine z_iinc F [(4, .int (x4 + (1 : Int32))), (5, .int s0), (0, zr G x0), (1, .int x1), (2, .int x2), (3, .int x3)] dX3_quorumOf_70 5 rfl rfl (Nat.le_of_ble_eq_true rfl) rfl ?_
      refine z_goto F 17 dX3_quorumOf_73 rfl ?_
      refine z_ls [(0, zr G x0), (1, .int x1), (2, .int x2), (3, .int x3), (4, .int (x4 + (1 : Int32)))] [2, 3, 4, 5, 0] rfl ?_
      exact hK17 x0 t0 x1 x2 x3 (x4 + (1 : Int32)) v_2 h
    · replace h := zif_t hc h
      refine z_iload F dX3_quorumOf_65 5 rfl ?_
      refine z_iconst (y := (1 : Int32)) F dX3_quorumOf_67 rfl ?_
      refine z_iadd F dX3_quorumOf_68 ?_
      refine z_istore_n F [(3, .int (x4 + (1 : Int32))), (5, .int s0), (0, zr G x0), (1, .int x1), (2, .int x2), (4, .int x4)] dX3_quorumOf_69 rfl (Nat.le_of_ble_eq_true rfl) rfl ?_
      refine z_iinc F [(4, .int (x4 + (1 : Int32))), (3, .int (x4 + (1 : Int32))), (5, .int s0), (0, zr G x0), (1, .int x1), (2, .int x2)] dX3_quorumOf_70 5 rfl rfl (Nat.le_of_ble_eq_true rfl) rfl ?_
      refine z_goto F 17 dX3_quorumOf_73 rfl ?_
      refine z_ls [(0, zr G x0), (1, .int x1), (2, .int x2), (3, .int (x4 + (1 : Int32))), (4, .int (x4 + (1 : Int32)))] [3, 4, 5, 1, 0] rfl ?_
      exact hK17 x0 t0 x1 x2 (x4 + (1 : Int32)) (x4 + (1 : Int32)) v_2 h
  · replace h := zif_f hc h
    refine z_iconst (y := (0 : Int32)) F dX3_quorumOf_55 rfl ?_
    refine z_istore_n F [(3, .int (0 : Int32)), (5, .int s0), (0, zr G x0), (1, .int x1), (2, .int x2), (4, .int x4)] dX3_quorumOf_56 rfl (Nat.le_of_ble_eq_true rfl) rfl ?_
    refine z_goto F 70 dX3_quorumOf_57 rfl ?_
    refine z_iinc F [(4, .int (x4 + (1 : Int32))), (3, .int (0 : Int32)), (5, .int s0), (0, zr G x0), (1, .int x1), (2, .int x2)] dX3_quorumOf_70 5 rfl rfl (Nat.le_of_ble_eq_true rfl) rfl ?_
    refine z_goto F 17 dX3_quorumOf_73 rfl ?_
    refine z_ls [(0, zr G x0), (1, .int x1), (2, .int x2), (3, .int (0 : Int32)), (4, .int (x4 + (1 : Int32)))] [3, 4, 5, 1, 0] rfl ?_
    exact hK17 x0 t0 x1 x2 (0 : Int32) (x4 + (1 : Int32)) v_2 h

def fX3_quorumOf_17  : Nat → Nat → Int32 → Int32 → Int32 → Int32 → zV → Option (Int32 × zV)
  | 0 => fun _ _ _ _ _ _ => none
  | n + 1 => fun x0 x1 x2 x3 x4 v =>
    if (v (zrf x0 1) 1) ≤ x4 then
      some (x3, v)
    else
      if x3 ≤ (0 : Int32) then
        fX3_quorumOf_38 (fX3_quorumOf_17 n) x0 x1 x2 x3 x4 (0 : Int32) v
      else
        fX3_quorumOf_38 (fX3_quorumOf_17 n) x0 x1 x2 x3 x4 (1 : Int32) v
set_option maxRecDepth 4000 in
theorem jX3_quorumOf_17 (x : zCx) (G : zG) (F : zF x G cX3_quorumOf 6 RX3 6 192) (hr : x.2.2.2.2.2.2.2.2.1.sig.returnType = (Option.some FieldType.int)) (hk : x.2.2.2.2.2.2.2.2.1.locks = false) (r : Int32) (w : zV)  : ∀ (n : Nat) (x0 : Nat) (t0 : zty G x0 1 3) (x1 : Int32) (x2 : Int32) (x3 : Int32) (x4 : Int32) (v : zV), fX3_quorumOf_17 n x0 x1 x2 x3 x4 v = some (r, w) → zJ x G 6 (zQ x G (some (.int r)) w 0 0) 0 0 17 [(0, zr G x0), (1, .int x1), (2, .int x2), (3, .int x3), (4, .int x4)] [] v := by
  intro n
  induction n with
  | zero => intro x0 t0 x1 x2 x3 x4 v h; exact absurd h (by intro q; cases q)
  | succ n ih =>
    intro x0 t0 x1 x2 x3 x4 v h
    rw [fX3_quorumOf_17] at h
    dsimp only at h
    refine z_iload F dX3_quorumOf_17 4 rfl ?_
    refine z_aload_n F dX3_quorumOf_19 rfl 0 rfl ?_
    refine zg_3_1 F t0 wF_X3_19 dX3_quorumOf_20 ?_
    refine zg_7_1 F (zt_f tc_3_1 t0) wF_X3_74 dX3_quorumOf_23 ?_
    refine z_icmp_ge F 76 dX3_quorumOf_26 rfl (fun hc => ?_) (fun hc => ?_)
    · replace h := zif_t hc h
      refine z_iload_n F dX3_quorumOf_76 rfl 3 rfl ?_
      cases h
      exact z_reti F hr hk dX3_quorumOf_77
    · replace h := zif_f hc h
      refine z_iload_n F dX3_quorumOf_29 rfl 3 rfl ?_
      refine z_if_le F 37 dX3_quorumOf_30 rfl (fun hc => ?_) (fun hc => ?_)
      · replace h := zif_t hc h
        refine z_iconst (y := (0 : Int32)) F dX3_quorumOf_37 rfl ?_
        refine z_ls [(0, zr G x0), (1, .int x1), (2, .int x2), (3, .int x3), (4, .int x4)] [0, 1, 2, 3, 4] rfl ?_
        exact jX3_quorumOf_38 x G F hr hk r w (fX3_quorumOf_17 n) ih x0 t0 x1 x2 x3 x4 (0 : Int32) v h
      · replace h := zif_f hc h
        refine z_iconst (y := (1 : Int32)) F dX3_quorumOf_33 rfl ?_
        refine z_goto F 38 dX3_quorumOf_34 rfl ?_
        refine z_ls [(0, zr G x0), (1, .int x1), (2, .int x2), (3, .int x3), (4, .int x4)] [0, 1, 2, 3, 4] rfl ?_
        exact jX3_quorumOf_38 x G F hr hk r w (fX3_quorumOf_17 n) ih x0 t0 x1 x2 x3 x4 (1 : Int32) v h

def fX3_quorumOf (x0 : Nat) (x1 : Int32) (v : zV) : Option (Int32 × zV) :=
  zbind (fX3_voteBy x0 x1 (1 : Int32) (0 : Int32) v) fun r_2 v_1 =>
  zbindv (fX3_clearTally x0 v_1) fun v_3 =>
  fX3_quorumOf_17  zFU x0 x1 r_2 (0 : Int32) (0 : Int32) v_3
set_option maxRecDepth 4000 in
theorem kX3_quorumOf (l : Launch) (G : zG) (x0 : Nat) (t0 : zty G x0 1 3) (x1 : Int32) (v : zV) (r : Int32) (w : zV) (h : fX3_quorumOf x0 x1 v = some (r, w)) : zMet l yX3_quorumOf cX3_quorumOf 6 (Option.some FieldType.int) 6 192 0 0 [zr G x0, .int x1] G v (some (.int r)) w := by
  refine zM_of (own := RX3) (by decide) rfl (Nat.le_of_ble_eq_true rfl) (fun x hl F hr hk hcs => ?_)
  subst hl
  refine z_ls [(0, zr G x0), (1, .int x1)] [0, 1] rfl ?_
  unfold fX3_quorumOf at h
  refine z_aload_n F dX3_quorumOf_0 rfl 0 rfl ?_
  refine z_iload_n F dX3_quorumOf_1 rfl 1 rfl ?_
  refine z_iconst (y := (1 : Int32)) F dX3_quorumOf_2 rfl ?_
  refine z_iconst (y := (0 : Int32)) F dX3_quorumOf_3 rfl ?_
  obtain ⟨r_2, v_1, hq4, h⟩ := zbind_ex h
  refine z_callVi F [.int x1, .int (1 : Int32), .int (0 : Int32)] [] (kX3_voteBy x.2.1 G x0 t0 x1 (1 : Int32) (0 : Int32) v r_2 v_1 hq4) mI_X3_voteBy (c := 3) rfl t0 wM_X3_88 mi_X3_voteBy sl_X3_voteBy dX3_quorumOf_4 rfl ⟨Nat.le_of_ble_eq_true rfl, Nat.le_of_ble_eq_true rfl⟩ rfl (Nat.le_of_ble_eq_true rfl) ⟨Nat.zero_le _, Nat.zero_le _⟩ ?_
  refine z_istore_n F [(2, .int r_2), (0, zr G x0), (1, .int x1)] dX3_quorumOf_7 rfl (Nat.le_of_ble_eq_true rfl) rfl ?_
  refine z_iconst (y := (0 : Int32)) F dX3_quorumOf_8 rfl ?_
  refine z_istore_n F [(3, .int (0 : Int32)), (2, .int r_2), (0, zr G x0), (1, .int x1)] dX3_quorumOf_9 rfl (Nat.le_of_ble_eq_true rfl) rfl ?_
  refine z_aload_n F dX3_quorumOf_10 rfl 2 rfl ?_
  obtain ⟨v_3, hq11, h⟩ := zbindv_ex h
  refine z_callVv F [] [] (kX3_clearTally x.2.1 G x0 t0 v_1 v_3 hq11) mI_X3_clearTally (c := 3) rfl t0 wM_X3_71 mi_X3_clearTally sl_X3_clearTally dX3_quorumOf_11 rfl ⟨Nat.le_of_ble_eq_true rfl, Nat.le_of_ble_eq_true rfl⟩ rfl (Nat.le_of_ble_eq_true rfl) ⟨Nat.zero_le _, Nat.zero_le _⟩ ?_
  refine z_iconst (y := (0 : Int32)) F dX3_quorumOf_14 rfl ?_
  refine z_istore (n := 0) F [(4, .int (0 : Int32)), (3, .int (0 : Int32)), (2, .int r_2), (0, zr G x0), (1, .int x1)] dX3_quorumOf_15 (Nat.le_of_ble_eq_true rfl) rfl ?_
  refine z_ls [(0, zr G x0), (1, .int x1), (2, .int r_2), (3, .int (0 : Int32)), (4, .int (0 : Int32))] [3, 4, 2, 1, 0] rfl ?_
  exact jX3_quorumOf_17 x G F hr hk r w   zFU x0 t0 x1 r_2 (0 : Int32) (0 : Int32) v_3 h

theorem dX3_alliesOf_0 : decode cX3_alliesOf 0 = .ok (.iconst 0, 1) := by decide +kernel
theorem dX3_alliesOf_1 : decode cX3_alliesOf 1 = .ok (.istore_n 2, 1) := by decide +kernel
theorem dX3_alliesOf_2 : decode cX3_alliesOf 2 = .ok (.iconst 0, 1) := by decide +kernel
theorem dX3_alliesOf_3 : decode cX3_alliesOf 3 = .ok (.istore_n 3, 1) := by decide +kernel
theorem dX3_alliesOf_4 : decode cX3_alliesOf 4 = .ok (.iload_n 3, 1) := by decide +kernel
theorem dX3_alliesOf_5 : decode cX3_alliesOf 5 = .ok (.aload_n 0, 1) := by decide +kernel
theorem dX3_alliesOf_6 : decode cX3_alliesOf 6 = .ok (.getfield 15, 3) := by decide +kernel
theorem dX3_alliesOf_9 : decode cX3_alliesOf 9 = .ok (.getfield 23, 3) := by decide +kernel
theorem dX3_alliesOf_12 : decode cX3_alliesOf 12 = .ok (.if_icmp .ge 32, 3) := by decide +kernel
theorem dX3_alliesOf_15 : decode cX3_alliesOf 15 = .ok (.iload_n 3, 1) := by decide +kernel
theorem dX3_alliesOf_16 : decode cX3_alliesOf 16 = .ok (.iload_n 1, 1) := by decide +kernel
theorem dX3_alliesOf_17 : decode cX3_alliesOf 17 = .ok (.if_icmp .eq 21, 3) := by decide +kernel
theorem dX3_alliesOf_20 : decode cX3_alliesOf 20 = .ok (.aload_n 0, 1) := by decide +kernel
theorem dX3_alliesOf_21 : decode cX3_alliesOf 21 = .ok (.getfield 15, 3) := by decide +kernel
theorem dX3_alliesOf_24 : decode cX3_alliesOf 24 = .ok (.iload_n 1, 1) := by decide +kernel
theorem dX3_alliesOf_25 : decode cX3_alliesOf 25 = .ok (.iload_n 3, 1) := by decide +kernel
theorem dX3_alliesOf_26 : decode cX3_alliesOf 26 = .ok (.invokevirtual 95, 3) := by decide +kernel
theorem dX3_alliesOf_29 : decode cX3_alliesOf 29 = .ok (.ifCond .eq 9, 3) := by decide +kernel
theorem dX3_alliesOf_32 : decode cX3_alliesOf 32 = .ok (.iload_n 2, 1) := by decide +kernel
theorem dX3_alliesOf_33 : decode cX3_alliesOf 33 = .ok (.iconst 1, 1) := by decide +kernel
theorem dX3_alliesOf_34 : decode cX3_alliesOf 34 = .ok (.iload_n 3, 1) := by decide +kernel
theorem dX3_alliesOf_35 : decode cX3_alliesOf 35 = .ok (.ishl, 1) := by decide +kernel
theorem dX3_alliesOf_36 : decode cX3_alliesOf 36 = .ok (.ior, 1) := by decide +kernel
theorem dX3_alliesOf_37 : decode cX3_alliesOf 37 = .ok (.istore_n 2, 1) := by decide +kernel
theorem dX3_alliesOf_38 : decode cX3_alliesOf 38 = .ok (.iinc 3 1, 3) := by decide +kernel
theorem dX3_alliesOf_41 : decode cX3_alliesOf 41 = .ok (.goto (-37), 3) := by decide +kernel
theorem dX3_alliesOf_44 : decode cX3_alliesOf 44 = .ok (.iload_n 2, 1) := by decide +kernel
theorem dX3_alliesOf_45 : decode cX3_alliesOf 45 = .ok (.ireturn, 1) := by decide +kernel
def fX3_alliesOf_4  : Nat → Nat → Int32 → Int32 → Int32 → zV → Option (Int32 × zV)
  | 0 => fun _ _ _ _ _ => none
  | n + 1 => fun x0 x1 x2 x3 v =>
    if (v (zrf x0 0) 1) ≤ x3 then
      some (x2, v)
    else
      if x3 = x1 then
        (fX3_alliesOf_4 n) x0 x1 x2 (x3 + (1 : Int32)) v
      else
        zbind (fX0_believeTheSame (zrf x0 0) x1 x3 v) fun r_2 v_1 =>
        if r_2 = (0 : Int32) then
          (fX3_alliesOf_4 n) x0 x1 x2 (x3 + (1 : Int32)) v_1
        else
          (fX3_alliesOf_4 n) x0 x1 (x2 ||| ((1 : Int32) <<< (x3 &&& 31))) (x3 + (1 : Int32)) v_1
set_option maxRecDepth 4000 in
theorem jX3_alliesOf_4 (x : zCx) (G : zG) (F : zF x G cX3_alliesOf 4 RX3 3 123) (hr : x.2.2.2.2.2.2.2.2.1.sig.returnType = (Option.some FieldType.int)) (hk : x.2.2.2.2.2.2.2.2.1.locks = false) (r : Int32) (w : zV)  : ∀ (n : Nat) (x0 : Nat) (t0 : zty G x0 1 3) (x1 : Int32) (x2 : Int32) (x3 : Int32) (v : zV), fX3_alliesOf_4 n x0 x1 x2 x3 v = some (r, w) → zJ x G 4 (zQ x G (some (.int r)) w 0 0) 0 0 4 [(0, zr G x0), (1, .int x1), (2, .int x2), (3, .int x3)] [] v := by
  intro n
  induction n with
  | zero => intro x0 t0 x1 x2 x3 v h; exact absurd h (by intro q; cases q)
  | succ n ih =>
    intro x0 t0 x1 x2 x3 v h
    rw [fX3_alliesOf_4] at h
    dsimp only at h
    refine z_iload_n F dX3_alliesOf_4 rfl 3 rfl ?_
    refine z_aload_n F dX3_alliesOf_5 rfl 0 rfl ?_
    refine zg_3_0 F t0 wF_X3_15 dX3_alliesOf_6 ?_
    refine zg_0_1 F (zt_f tc_3_0 t0) wF_X3_23 dX3_alliesOf_9 ?_
    refine z_icmp_ge F 44 dX3_alliesOf_12 rfl (fun hc => ?_) (fun hc => ?_)
    · replace h := zif_t hc h
      refine z_iload_n F dX3_alliesOf_44 rfl 2 rfl ?_
      cases h
      exact z_reti F hr hk dX3_alliesOf_45
    · replace h := zif_f hc h
      refine z_iload_n F dX3_alliesOf_15 rfl 3 rfl ?_
      refine z_iload_n F dX3_alliesOf_16 rfl 1 rfl ?_
      refine z_icmp_eq F 38 dX3_alliesOf_17 rfl (fun hc => ?_) (fun hc => ?_)
      · replace h := zif_t hc h
        refine z_iinc F [(3, .int (x3 + (1 : Int32))), (0, zr G x0), (1, .int x1), (2, .int x2)] dX3_alliesOf_38 3 rfl rfl (Nat.le_of_ble_eq_true rfl) rfl ?_
        refine z_goto F 4 dX3_alliesOf_41 rfl ?_
        refine z_ls [(0, zr G x0), (1, .int x1), (2, .int x2), (3, .int (x3 + (1 : Int32)))] [1, 2, 3, 0] rfl ?_
        exact ih x0 t0 x1 x2 (x3 + (1 : Int32)) v h
      · replace h := zif_f hc h
        refine z_aload_n F dX3_alliesOf_20 rfl 0 rfl ?_
        refine zg_3_0 F t0 wF_X3_15 dX3_alliesOf_21 ?_
        refine z_iload_n F dX3_alliesOf_24 rfl 1 rfl ?_
        refine z_iload_n F dX3_alliesOf_25 rfl 3 rfl ?_
        obtain ⟨r_2, v_1, hq26, h⟩ := zbind_ex h
        refine z_callVi F [.int x1, .int x3] [] (kX0_believeTheSame x.2.1 G (zrf x0 0) (zt_f tc_3_0 t0) x1 x3 v r_2 v_1 hq26) mI_X0_believeTheSame (c := 0) rfl (zt_f tc_3_0 t0) wM_X3_95 mi_X0_believeTheSame sl_X0_believeTheSame dX3_alliesOf_26 rfl ⟨Nat.le_of_ble_eq_true rfl, Nat.le_of_ble_eq_true rfl⟩ rfl (Nat.le_of_ble_eq_true rfl) ⟨Nat.zero_le _, Nat.zero_le _⟩ ?_
        refine z_if_eq F 38 dX3_alliesOf_29 rfl (fun hc => ?_) (fun hc => ?_)
        · replace h := zif_t hc h
          refine z_iinc F [(3, .int (x3 + (1 : Int32))), (0, zr G x0), (1, .int x1), (2, .int x2)] dX3_alliesOf_38 3 rfl rfl (Nat.le_of_ble_eq_true rfl) rfl ?_
          refine z_goto F 4 dX3_alliesOf_41 rfl ?_
          refine z_ls [(0, zr G x0), (1, .int x1), (2, .int x2), (3, .int (x3 + (1 : Int32)))] [1, 2, 3, 0] rfl ?_
          exact ih x0 t0 x1 x2 (x3 + (1 : Int32)) v_1 h
        · replace h := zif_f hc h
          refine z_iload_n F dX3_alliesOf_32 rfl 2 rfl ?_
          refine z_iconst (y := (1 : Int32)) F dX3_alliesOf_33 rfl ?_
          refine z_iload_n F dX3_alliesOf_34 rfl 3 rfl ?_
          refine z_ishl F dX3_alliesOf_35 ?_
          refine z_ior F dX3_alliesOf_36 ?_
          refine z_istore_n F [(2, .int (x2 ||| ((1 : Int32) <<< (x3 &&& 31)))), (0, zr G x0), (1, .int x1), (3, .int x3)] dX3_alliesOf_37 rfl (Nat.le_of_ble_eq_true rfl) rfl ?_
          refine z_iinc F [(3, .int (x3 + (1 : Int32))), (2, .int (x2 ||| ((1 : Int32) <<< (x3 &&& 31)))), (0, zr G x0), (1, .int x1)] dX3_alliesOf_38 3 rfl rfl (Nat.le_of_ble_eq_true rfl) rfl ?_
          refine z_goto F 4 dX3_alliesOf_41 rfl ?_
          refine z_ls [(0, zr G x0), (1, .int x1), (2, .int (x2 ||| ((1 : Int32) <<< (x3 &&& 31)))), (3, .int (x3 + (1 : Int32)))] [2, 3, 1, 0] rfl ?_
          exact ih x0 t0 x1 (x2 ||| ((1 : Int32) <<< (x3 &&& 31))) (x3 + (1 : Int32)) v_1 h

def fX3_alliesOf (x0 : Nat) (x1 : Int32) (v : zV) : Option (Int32 × zV) :=
  fX3_alliesOf_4  zFU x0 x1 (0 : Int32) (0 : Int32) v
set_option maxRecDepth 4000 in
theorem kX3_alliesOf (l : Launch) (G : zG) (x0 : Nat) (t0 : zty G x0 1 3) (x1 : Int32) (v : zV) (r : Int32) (w : zV) (h : fX3_alliesOf x0 x1 v = some (r, w)) : zMet l yX3_alliesOf cX3_alliesOf 4 (Option.some FieldType.int) 3 123 0 0 [zr G x0, .int x1] G v (some (.int r)) w := by
  refine zM_of (own := RX3) (by decide) rfl (Nat.le_of_ble_eq_true rfl) (fun x hl F hr hk hcs => ?_)
  subst hl
  refine z_ls [(0, zr G x0), (1, .int x1)] [0, 1] rfl ?_
  unfold fX3_alliesOf at h
  refine z_iconst (y := (0 : Int32)) F dX3_alliesOf_0 rfl ?_
  refine z_istore_n F [(2, .int (0 : Int32)), (0, zr G x0), (1, .int x1)] dX3_alliesOf_1 rfl (Nat.le_of_ble_eq_true rfl) rfl ?_
  refine z_iconst (y := (0 : Int32)) F dX3_alliesOf_2 rfl ?_
  refine z_istore_n F [(3, .int (0 : Int32)), (2, .int (0 : Int32)), (0, zr G x0), (1, .int x1)] dX3_alliesOf_3 rfl (Nat.le_of_ble_eq_true rfl) rfl ?_
  refine z_ls [(0, zr G x0), (1, .int x1), (2, .int (0 : Int32)), (3, .int (0 : Int32))] [2, 3, 1, 0] rfl ?_
  exact jX3_alliesOf_4 x G F hr hk r w   zFU x0 t0 x1 (0 : Int32) (0 : Int32) v h

theorem dX3_seamChairs_0 : decode cX3_seamChairs 0 = .ok (.iconst 0, 1) := by decide +kernel
theorem dX3_seamChairs_1 : decode cX3_seamChairs 1 = .ok (.istore_n 1, 1) := by decide +kernel
theorem dX3_seamChairs_2 : decode cX3_seamChairs 2 = .ok (.iconst 1, 1) := by decide +kernel
theorem dX3_seamChairs_3 : decode cX3_seamChairs 3 = .ok (.istore_n 2, 1) := by decide +kernel
theorem dX3_seamChairs_4 : decode cX3_seamChairs 4 = .ok (.iload_n 2, 1) := by decide +kernel
theorem dX3_seamChairs_5 : decode cX3_seamChairs 5 = .ok (.aload_n 0, 1) := by decide +kernel
theorem dX3_seamChairs_6 : decode cX3_seamChairs 6 = .ok (.getfield 19, 3) := by decide +kernel
theorem dX3_seamChairs_9 : decode cX3_seamChairs 9 = .ok (.getfield 74, 3) := by decide +kernel
theorem dX3_seamChairs_12 : decode cX3_seamChairs 12 = .ok (.if_icmp .ge 43, 3) := by decide +kernel
theorem dX3_seamChairs_15 : decode cX3_seamChairs 15 = .ok (.aload_n 0, 1) := by decide +kernel
theorem dX3_seamChairs_16 : decode cX3_seamChairs 16 = .ok (.getfield 15, 3) := by decide +kernel
theorem dX3_seamChairs_19 : decode cX3_seamChairs 19 = .ok (.aload_n 0, 1) := by decide +kernel
theorem dX3_seamChairs_20 : decode cX3_seamChairs 20 = .ok (.getfield 19, 3) := by decide +kernel
theorem dX3_seamChairs_23 : decode cX3_seamChairs 23 = .ok (.iload_n 2, 1) := by decide +kernel
theorem dX3_seamChairs_24 : decode cX3_seamChairs 24 = .ok (.iconst 1, 1) := by decide +kernel
theorem dX3_seamChairs_25 : decode cX3_seamChairs 25 = .ok (.isub, 1) := by decide +kernel
theorem dX3_seamChairs_26 : decode cX3_seamChairs 26 = .ok (.invokevirtual 54, 3) := by decide +kernel
theorem dX3_seamChairs_29 : decode cX3_seamChairs 29 = .ok (.aload_n 0, 1) := by decide +kernel
theorem dX3_seamChairs_30 : decode cX3_seamChairs 30 = .ok (.getfield 19, 3) := by decide +kernel
theorem dX3_seamChairs_33 : decode cX3_seamChairs 33 = .ok (.iload_n 2, 1) := by decide +kernel
theorem dX3_seamChairs_34 : decode cX3_seamChairs 34 = .ok (.invokevirtual 54, 3) := by decide +kernel
theorem dX3_seamChairs_37 : decode cX3_seamChairs 37 = .ok (.invokevirtual 95, 3) := by decide +kernel
theorem dX3_seamChairs_40 : decode cX3_seamChairs 40 = .ok (.ifCond .eq 9, 3) := by decide +kernel
theorem dX3_seamChairs_43 : decode cX3_seamChairs 43 = .ok (.iload_n 1, 1) := by decide +kernel
theorem dX3_seamChairs_44 : decode cX3_seamChairs 44 = .ok (.iconst 1, 1) := by decide +kernel
theorem dX3_seamChairs_45 : decode cX3_seamChairs 45 = .ok (.iload_n 2, 1) := by decide +kernel
theorem dX3_seamChairs_46 : decode cX3_seamChairs 46 = .ok (.ishl, 1) := by decide +kernel
theorem dX3_seamChairs_47 : decode cX3_seamChairs 47 = .ok (.ior, 1) := by decide +kernel
theorem dX3_seamChairs_48 : decode cX3_seamChairs 48 = .ok (.istore_n 1, 1) := by decide +kernel
theorem dX3_seamChairs_49 : decode cX3_seamChairs 49 = .ok (.iinc 2 1, 3) := by decide +kernel
theorem dX3_seamChairs_52 : decode cX3_seamChairs 52 = .ok (.goto (-48), 3) := by decide +kernel
theorem dX3_seamChairs_55 : decode cX3_seamChairs 55 = .ok (.iload_n 1, 1) := by decide +kernel
theorem dX3_seamChairs_56 : decode cX3_seamChairs 56 = .ok (.ireturn, 1) := by decide +kernel
def fX3_seamChairs_4  : Nat → Nat → Int32 → Int32 → zV → Option (Int32 × zV)
  | 0 => fun _ _ _ _ => none
  | n + 1 => fun x0 x1 x2 v =>
    if (v (zrf x0 1) 1) ≤ x2 then
      some (x1, v)
    else
      zbind (fX7_onChair (zrf x0 1) (x2 - (1 : Int32)) v) fun r_2 v_1 =>
      zbind (fX7_onChair (zrf x0 1) x2 v_1) fun r_4 v_3 =>
      zbind (fX0_believeTheSame (zrf x0 0) r_2 r_4 v_3) fun r_6 v_5 =>
      if r_6 = (0 : Int32) then
        (fX3_seamChairs_4 n) x0 x1 (x2 + (1 : Int32)) v_5
      else
        (fX3_seamChairs_4 n) x0 (x1 ||| ((1 : Int32) <<< (x2 &&& 31))) (x2 + (1 : Int32)) v_5
set_option maxRecDepth 4000 in
theorem jX3_seamChairs_4 (x : zCx) (G : zG) (F : zF x G cX3_seamChairs 3 RX3 3 123) (hr : x.2.2.2.2.2.2.2.2.1.sig.returnType = (Option.some FieldType.int)) (hk : x.2.2.2.2.2.2.2.2.1.locks = false) (r : Int32) (w : zV)  : ∀ (n : Nat) (x0 : Nat) (t0 : zty G x0 1 3) (x1 : Int32) (x2 : Int32) (v : zV), fX3_seamChairs_4 n x0 x1 x2 v = some (r, w) → zJ x G 3 (zQ x G (some (.int r)) w 0 0) 0 0 4 [(0, zr G x0), (1, .int x1), (2, .int x2)] [] v := by
  intro n
  induction n with
  | zero => intro x0 t0 x1 x2 v h; exact absurd h (by intro q; cases q)
  | succ n ih =>
    intro x0 t0 x1 x2 v h
    rw [fX3_seamChairs_4] at h
    dsimp only at h
    refine z_iload_n F dX3_seamChairs_4 rfl 2 rfl ?_
    refine z_aload_n F dX3_seamChairs_5 rfl 0 rfl ?_
    refine zg_3_1 F t0 wF_X3_19 dX3_seamChairs_6 ?_
    refine zg_7_1 F (zt_f tc_3_1 t0) wF_X3_74 dX3_seamChairs_9 ?_
    refine z_icmp_ge F 55 dX3_seamChairs_12 rfl (fun hc => ?_) (fun hc => ?_)
    · replace h := zif_t hc h
      refine z_iload_n F dX3_seamChairs_55 rfl 1 rfl ?_
      cases h
      exact z_reti F hr hk dX3_seamChairs_56
    · replace h := zif_f hc h
      refine z_aload_n F dX3_seamChairs_15 rfl 0 rfl ?_
      refine zg_3_0 F t0 wF_X3_15 dX3_seamChairs_16 ?_
      refine z_aload_n F dX3_seamChairs_19 rfl 0 rfl ?_
      refine zg_3_1 F t0 wF_X3_19 dX3_seamChairs_20 ?_
      refine z_iload_n F dX3_seamChairs_23 rfl 2 rfl ?_
      refine z_iconst (y := (1 : Int32)) F dX3_seamChairs_24 rfl ?_
      refine z_isub F dX3_seamChairs_25 ?_
      obtain ⟨r_2, v_1, hq26, h⟩ := zbind_ex h
      refine z_callVi F [.int (x2 - (1 : Int32))] [zr G (zrf x0 0)] (kX7_onChair x.2.1 G (zrf x0 1) (zt_f tc_3_1 t0) (x2 - (1 : Int32)) v r_2 v_1 hq26) mI_X7_onChair (c := 7) rfl (zt_f tc_3_1 t0) wM_X3_54 mi_X7_onChair sl_X7_onChair dX3_seamChairs_26 rfl ⟨Nat.le_of_ble_eq_true rfl, Nat.le_of_ble_eq_true rfl⟩ rfl (Nat.le_of_ble_eq_true rfl) ⟨Nat.zero_le _, Nat.zero_le _⟩ ?_
      refine z_aload_n F dX3_seamChairs_29 rfl 0 rfl ?_
      refine zg_3_1 F t0 wF_X3_19 dX3_seamChairs_30 ?_
      refine z_iload_n F dX3_seamChairs_33 rfl 2 rfl ?_
      obtain ⟨r_4, v_3, hq34, h⟩ := zbind_ex h
      refine z_callVi F [.int x2] [.int r_2, zr G (zrf x0 0)] (kX7_onChair x.2.1 G (zrf x0 1) (zt_f tc_3_1 t0) x2 v_1 r_4 v_3 hq34) mI_X7_onChair (c := 7) rfl (zt_f tc_3_1 t0) wM_X3_54 mi_X7_onChair sl_X7_onChair dX3_seamChairs_34 rfl ⟨Nat.le_of_ble_eq_true rfl, Nat.le_of_ble_eq_true rfl⟩ rfl (Nat.le_of_ble_eq_true rfl) ⟨Nat.zero_le _, Nat.zero_le _⟩ ?_
      obtain ⟨r_6, v_5, hq37, h⟩ := zbind_ex h
      refine z_callVi F [.int r_2, .int r_4] [] (kX0_believeTheSame x.2.1 G (zrf x0 0) (zt_f tc_3_0 t0) r_2 r_4 v_3 r_6 v_5 hq37) mI_X0_believeTheSame (c := 0) rfl (zt_f tc_3_0 t0) wM_X3_95 mi_X0_believeTheSame sl_X0_believeTheSame dX3_seamChairs_37 rfl ⟨Nat.le_of_ble_eq_true rfl, Nat.le_of_ble_eq_true rfl⟩ rfl (Nat.le_of_ble_eq_true rfl) ⟨Nat.zero_le _, Nat.zero_le _⟩ ?_
      refine z_if_eq F 49 dX3_seamChairs_40 rfl (fun hc => ?_) (fun hc => ?_)
      · replace h := zif_t hc h
        refine z_iinc F [(2, .int (x2 + (1 : Int32))), (0, zr G x0), (1, .int x1)] dX3_seamChairs_49 2 rfl rfl (Nat.le_of_ble_eq_true rfl) rfl ?_
        refine z_goto F 4 dX3_seamChairs_52 rfl ?_
        refine z_ls [(0, zr G x0), (1, .int x1), (2, .int (x2 + (1 : Int32)))] [1, 2, 0] rfl ?_
        exact ih x0 t0 x1 (x2 + (1 : Int32)) v_5 h
      · replace h := zif_f hc h
        refine z_iload_n F dX3_seamChairs_43 rfl 1 rfl ?_
        refine z_iconst (y := (1 : Int32)) F dX3_seamChairs_44 rfl ?_
        refine z_iload_n F dX3_seamChairs_45 rfl 2 rfl ?_
        refine z_ishl F dX3_seamChairs_46 ?_
        refine z_ior F dX3_seamChairs_47 ?_
        refine z_istore_n F [(1, .int (x1 ||| ((1 : Int32) <<< (x2 &&& 31)))), (0, zr G x0), (2, .int x2)] dX3_seamChairs_48 rfl (Nat.le_of_ble_eq_true rfl) rfl ?_
        refine z_iinc F [(2, .int (x2 + (1 : Int32))), (1, .int (x1 ||| ((1 : Int32) <<< (x2 &&& 31)))), (0, zr G x0)] dX3_seamChairs_49 2 rfl rfl (Nat.le_of_ble_eq_true rfl) rfl ?_
        refine z_goto F 4 dX3_seamChairs_52 rfl ?_
        refine z_ls [(0, zr G x0), (1, .int (x1 ||| ((1 : Int32) <<< (x2 &&& 31)))), (2, .int (x2 + (1 : Int32)))] [2, 1, 0] rfl ?_
        exact ih x0 t0 (x1 ||| ((1 : Int32) <<< (x2 &&& 31))) (x2 + (1 : Int32)) v_5 h

def fX3_seamChairs (x0 : Nat) (v : zV) : Option (Int32 × zV) :=
  fX3_seamChairs_4  zFU x0 (0 : Int32) (1 : Int32) v
set_option maxRecDepth 4000 in
theorem kX3_seamChairs (l : Launch) (G : zG) (x0 : Nat) (t0 : zty G x0 1 3) (v : zV) (r : Int32) (w : zV) (h : fX3_seamChairs x0 v = some (r, w)) : zMet l yX3_seamChairs cX3_seamChairs 3 (Option.some FieldType.int) 3 123 0 0 [zr G x0] G v (some (.int r)) w := by
  refine zM_of (own := RX3) (by decide) rfl (Nat.le_of_ble_eq_true rfl) (fun x hl F hr hk hcs => ?_)
  subst hl
  refine z_ls [(0, zr G x0)] [0] rfl ?_
  unfold fX3_seamChairs at h
  refine z_iconst (y := (0 : Int32)) F dX3_seamChairs_0 rfl ?_
  refine z_istore_n F [(1, .int (0 : Int32)), (0, zr G x0)] dX3_seamChairs_1 rfl (Nat.le_of_ble_eq_true rfl) rfl ?_
  refine z_iconst (y := (1 : Int32)) F dX3_seamChairs_2 rfl ?_
  refine z_istore_n F [(2, .int (1 : Int32)), (1, .int (0 : Int32)), (0, zr G x0)] dX3_seamChairs_3 rfl (Nat.le_of_ble_eq_true rfl) rfl ?_
  refine z_ls [(0, zr G x0), (1, .int (0 : Int32)), (2, .int (1 : Int32))] [2, 1, 0] rfl ?_
  exact jX3_seamChairs_4 x G F hr hk r w   zFU x0 t0 (0 : Int32) (1 : Int32) v h

theorem dX3_mostUnlike_0 : decode cX3_mostUnlike 0 = .ok (.iconst (-1), 1) := by decide +kernel
theorem dX3_mostUnlike_1 : decode cX3_mostUnlike 1 = .ok (.istore_n 2, 1) := by decide +kernel
theorem dX3_mostUnlike_2 : decode cX3_mostUnlike 2 = .ok (.iconst (-1), 1) := by decide +kernel
theorem dX3_mostUnlike_3 : decode cX3_mostUnlike 3 = .ok (.istore_n 3, 1) := by decide +kernel
theorem dX3_mostUnlike_4 : decode cX3_mostUnlike 4 = .ok (.iconst (-1), 1) := by decide +kernel
theorem dX3_mostUnlike_5 : decode cX3_mostUnlike 5 = .ok (.istore 4, 2) := by decide +kernel
theorem dX3_mostUnlike_7 : decode cX3_mostUnlike 7 = .ok (.iconst 0, 1) := by decide +kernel
theorem dX3_mostUnlike_8 : decode cX3_mostUnlike 8 = .ok (.istore 5, 2) := by decide +kernel
theorem dX3_mostUnlike_10 : decode cX3_mostUnlike 10 = .ok (.iload 5, 2) := by decide +kernel
theorem dX3_mostUnlike_12 : decode cX3_mostUnlike 12 = .ok (.aload_n 0, 1) := by decide +kernel
theorem dX3_mostUnlike_13 : decode cX3_mostUnlike 13 = .ok (.getfield 15, 3) := by decide +kernel
theorem dX3_mostUnlike_16 : decode cX3_mostUnlike 16 = .ok (.getfield 23, 3) := by decide +kernel
theorem dX3_mostUnlike_19 : decode cX3_mostUnlike 19 = .ok (.if_icmp .ge 87, 3) := by decide +kernel
theorem dX3_mostUnlike_22 : decode cX3_mostUnlike 22 = .ok (.iload 5, 2) := by decide +kernel
theorem dX3_mostUnlike_24 : decode cX3_mostUnlike 24 = .ok (.iconst 1, 1) := by decide +kernel
theorem dX3_mostUnlike_25 : decode cX3_mostUnlike 25 = .ok (.iadd, 1) := by decide +kernel
theorem dX3_mostUnlike_26 : decode cX3_mostUnlike 26 = .ok (.istore 6, 2) := by decide +kernel
theorem dX3_mostUnlike_28 : decode cX3_mostUnlike 28 = .ok (.iload 6, 2) := by decide +kernel
theorem dX3_mostUnlike_30 : decode cX3_mostUnlike 30 = .ok (.aload_n 0, 1) := by decide +kernel
theorem dX3_mostUnlike_31 : decode cX3_mostUnlike 31 = .ok (.getfield 15, 3) := by decide +kernel
theorem dX3_mostUnlike_34 : decode cX3_mostUnlike 34 = .ok (.getfield 23, 3) := by decide +kernel
theorem dX3_mostUnlike_37 : decode cX3_mostUnlike 37 = .ok (.if_icmp .ge 63, 3) := by decide +kernel
theorem dX3_mostUnlike_40 : decode cX3_mostUnlike 40 = .ok (.aload_n 0, 1) := by decide +kernel
theorem dX3_mostUnlike_41 : decode cX3_mostUnlike 41 = .ok (.getfield 15, 3) := by decide +kernel
theorem dX3_mostUnlike_44 : decode cX3_mostUnlike 44 = .ok (.iload 5, 2) := by decide +kernel
theorem dX3_mostUnlike_46 : decode cX3_mostUnlike 46 = .ok (.iload 6, 2) := by decide +kernel
theorem dX3_mostUnlike_48 : decode cX3_mostUnlike 48 = .ok (.invokevirtual 35, 3) := by decide +kernel
theorem dX3_mostUnlike_51 : decode cX3_mostUnlike 51 = .ok (.istore 7, 2) := by decide +kernel
theorem dX3_mostUnlike_53 : decode cX3_mostUnlike 53 = .ok (.aload_n 0, 1) := by decide +kernel
theorem dX3_mostUnlike_54 : decode cX3_mostUnlike 54 = .ok (.getfield 19, 3) := by decide +kernel
theorem dX3_mostUnlike_57 : decode cX3_mostUnlike 57 = .ok (.iload 5, 2) := by decide +kernel
theorem dX3_mostUnlike_59 : decode cX3_mostUnlike 59 = .ok (.invokevirtual 39, 3) := by decide +kernel
theorem dX3_mostUnlike_62 : decode cX3_mostUnlike 62 = .ok (.ifCond .eq 32, 3) := by decide +kernel
theorem dX3_mostUnlike_65 : decode cX3_mostUnlike 65 = .ok (.aload_n 0, 1) := by decide +kernel
theorem dX3_mostUnlike_66 : decode cX3_mostUnlike 66 = .ok (.getfield 19, 3) := by decide +kernel
theorem dX3_mostUnlike_69 : decode cX3_mostUnlike 69 = .ok (.iload 6, 2) := by decide +kernel
theorem dX3_mostUnlike_71 : decode cX3_mostUnlike 71 = .ok (.invokevirtual 39, 3) := by decide +kernel
theorem dX3_mostUnlike_74 : decode cX3_mostUnlike 74 = .ok (.ifCond .eq 20, 3) := by decide +kernel
theorem dX3_mostUnlike_77 : decode cX3_mostUnlike 77 = .ok (.iload 7, 2) := by decide +kernel
theorem dX3_mostUnlike_79 : decode cX3_mostUnlike 79 = .ok (.iload 4, 2) := by decide +kernel
theorem dX3_mostUnlike_81 : decode cX3_mostUnlike 81 = .ok (.if_icmp .le 13, 3) := by decide +kernel
theorem dX3_mostUnlike_84 : decode cX3_mostUnlike 84 = .ok (.iload 5, 2) := by decide +kernel
theorem dX3_mostUnlike_86 : decode cX3_mostUnlike 86 = .ok (.istore_n 2, 1) := by decide +kernel
theorem dX3_mostUnlike_87 : decode cX3_mostUnlike 87 = .ok (.iload 6, 2) := by decide +kernel
theorem dX3_mostUnlike_89 : decode cX3_mostUnlike 89 = .ok (.istore_n 3, 1) := by decide +kernel
theorem dX3_mostUnlike_90 : decode cX3_mostUnlike 90 = .ok (.iload 7, 2) := by decide +kernel
theorem dX3_mostUnlike_92 : decode cX3_mostUnlike 92 = .ok (.istore 4, 2) := by decide +kernel
theorem dX3_mostUnlike_94 : decode cX3_mostUnlike 94 = .ok (.iinc 6 1, 3) := by decide +kernel
theorem dX3_mostUnlike_97 : decode cX3_mostUnlike 97 = .ok (.goto (-69), 3) := by decide +kernel
theorem dX3_mostUnlike_100 : decode cX3_mostUnlike 100 = .ok (.iinc 5 1, 3) := by decide +kernel
theorem dX3_mostUnlike_103 : decode cX3_mostUnlike 103 = .ok (.goto (-93), 3) := by decide +kernel
theorem dX3_mostUnlike_106 : decode cX3_mostUnlike 106 = .ok (.iload_n 1, 1) := by decide +kernel
theorem dX3_mostUnlike_107 : decode cX3_mostUnlike 107 = .ok (.lookupswitch 29 #[(0, 25), (1, 27)], 25) := by decide +kernel
theorem dX3_mostUnlike_132 : decode cX3_mostUnlike 132 = .ok (.iload_n 2, 1) := by decide +kernel
theorem dX3_mostUnlike_133 : decode cX3_mostUnlike 133 = .ok (.ireturn, 1) := by decide +kernel
theorem dX3_mostUnlike_134 : decode cX3_mostUnlike 134 = .ok (.iload_n 3, 1) := by decide +kernel
theorem dX3_mostUnlike_135 : decode cX3_mostUnlike 135 = .ok (.ireturn, 1) := by decide +kernel
theorem dX3_mostUnlike_136 : decode cX3_mostUnlike 136 = .ok (.iload 4, 2) := by decide +kernel
theorem dX3_mostUnlike_138 : decode cX3_mostUnlike 138 = .ok (.ireturn, 1) := by decide +kernel
def fX3_mostUnlike_28 (K10 : Nat → Int32 → Int32 → Int32 → Int32 → Int32 → zV → Option (Int32 × zV)) : Nat → Nat → Int32 → Int32 → Int32 → Int32 → Int32 → Int32 → zV → Option (Int32 × zV)
  | 0 => fun _ _ _ _ _ _ _ _ => none
  | n + 1 => fun x0 x1 x2 x3 x4 x5 x6 v =>
    if (v (zrf x0 0) 1) ≤ x6 then
      K10 x0 x1 x2 x3 x4 (x5 + (1 : Int32)) v
    else
      zbind (fX0_differing (zrf x0 0) x5 x6 v) fun r_2 v_1 =>
      zbind (fX7_isAlive (zrf x0 1) x5 v_1) fun r_4 v_3 =>
      if r_4 = (0 : Int32) then
        (fX3_mostUnlike_28 K10 n) x0 x1 x2 x3 x4 x5 (x6 + (1 : Int32)) v_3
      else
        zbind (fX7_isAlive (zrf x0 1) x6 v_3) fun r_6 v_5 =>
        if r_6 = (0 : Int32) then
          (fX3_mostUnlike_28 K10 n) x0 x1 x2 x3 x4 x5 (x6 + (1 : Int32)) v_5
        else
          if r_2 ≤ x4 then
            (fX3_mostUnlike_28 K10 n) x0 x1 x2 x3 x4 x5 (x6 + (1 : Int32)) v_5
          else
            (fX3_mostUnlike_28 K10 n) x0 x1 x5 x6 r_2 x5 (x6 + (1 : Int32)) v_5
set_option maxRecDepth 4000 in
theorem jX3_mostUnlike_28 (x : zCx) (G : zG) (F : zF x G cX3_mostUnlike 8 RX3 3 124) (hr : x.2.2.2.2.2.2.2.2.1.sig.returnType = (Option.some FieldType.int)) (hk : x.2.2.2.2.2.2.2.2.1.locks = false) (r : Int32) (w : zV) (K10 : Nat → Int32 → Int32 → Int32 → Int32 → Int32 → zV → Option (Int32 × zV)) (hK10 : ∀ (x0 : Nat) (t0 : zty G x0 1 3) (x1 : Int32) (x2 : Int32) (x3 : Int32) (x4 : Int32) (x5 : Int32) (v : zV), K10 x0 x1 x2 x3 x4 x5 v = some (r, w) → zJ x G 8 (zQ x G (some (.int r)) w 0 0) 0 0 10 [(0, zr G x0), (1, .int x1), (2, .int x2), (3, .int x3), (4, .int x4), (5, .int x5)] [] v) : ∀ (n : Nat) (x0 : Nat) (t0 : zty G x0 1 3) (x1 : Int32) (x2 : Int32) (x3 : Int32) (x4 : Int32) (x5 : Int32) (x6 : Int32) (v : zV), fX3_mostUnlike_28 K10 n x0 x1 x2 x3 x4 x5 x6 v = some (r, w) → zJ x G 8 (zQ x G (some (.int r)) w 0 0) 0 0 28 [(0, zr G x0), (1, .int x1), (2, .int x2), (3, .int x3), (4, .int x4), (5, .int x5), (6, .int x6)] [] v := by
  intro n
  induction n with
  | zero => intro x0 t0 x1 x2 x3 x4 x5 x6 v h; exact absurd h (by intro q; cases q)
  | succ n ih =>
    intro x0 t0 x1 x2 x3 x4 x5 x6 v h
    rw [fX3_mostUnlike_28] at h
    dsimp only at h
    refine z_iload F dX3_mostUnlike_28 6 rfl ?_
    refine z_aload_n F dX3_mostUnlike_30 rfl 0 rfl ?_
    refine zg_3_0 F t0 wF_X3_15 dX3_mostUnlike_31 ?_
    refine zg_0_1 F (zt_f tc_3_0 t0) wF_X3_23 dX3_mostUnlike_34 ?_
    refine z_icmp_ge F 100 dX3_mostUnlike_37 rfl (fun hc => ?_) (fun hc => ?_)
    · replace h := zif_t hc h
      refine z_iinc F [(5, .int (x5 + (1 : Int32))), (0, zr G x0), (1, .int x1), (2, .int x2), (3, .int x3), (4, .int x4), (6, .int x6)] dX3_mostUnlike_100 5 rfl rfl (Nat.le_of_ble_eq_true rfl) rfl ?_
      refine z_goto F 10 dX3_mostUnlike_103 rfl ?_
      refine z_ls [(0, zr G x0), (1, .int x1), (2, .int x2), (3, .int x3), (4, .int x4), (5, .int (x5 + (1 : Int32)))] [1, 2, 3, 4, 5, 0] rfl ?_
      exact hK10 x0 t0 x1 x2 x3 x4 (x5 + (1 : Int32)) v h
    · replace h := zif_f hc h
      refine z_aload_n F dX3_mostUnlike_40 rfl 0 rfl ?_
      refine zg_3_0 F t0 wF_X3_15 dX3_mostUnlike_41 ?_
      refine z_iload F dX3_mostUnlike_44 5 rfl ?_
      refine z_iload F dX3_mostUnlike_46 6 rfl ?_
      obtain ⟨r_2, v_1, hq48, h⟩ := zbind_ex h
      refine z_callVi F [.int x5, .int x6] [] (kX0_differing x.2.1 G (zrf x0 0) (zt_f tc_3_0 t0) x5 x6 v r_2 v_1 hq48) mI_X0_differing (c := 0) rfl (zt_f tc_3_0 t0) wM_X3_35 mi_X0_differing sl_X0_differing dX3_mostUnlike_48 rfl ⟨Nat.le_of_ble_eq_true rfl, Nat.le_of_ble_eq_true rfl⟩ rfl (Nat.le_of_ble_eq_true rfl) ⟨Nat.zero_le _, Nat.zero_le _⟩ ?_
      refine z_istore (n := 0) F [(7, .int r_2), (0, zr G x0), (1, .int x1), (2, .int x2), (3, .int x3), (4, .int x4), (5, .int x5), (6, .int x6)] dX3_mostUnlike_51 (Nat.le_of_ble_eq_true rfl) rfl ?_
      refine z_aload_n F dX3_mostUnlike_53 rfl 1 rfl ?_
      refine zg_3_1 F t0 wF_X3_19 dX3_mostUnlike_54 ?_
      refine z_iload F dX3_mostUnlike_57 6 rfl ?_
      obtain ⟨r_4, v_3, hq59, h⟩ := zbind_ex h
      refine z_callVi F [.int x5] [] (kX7_isAlive x.2.1 G (zrf x0 1) (zt_f tc_3_1 t0) x5 v_1 r_4 v_3 hq59) mI_X7_isAlive (c := 7) rfl (zt_f tc_3_1 t0) wM_X3_39 mi_X7_isAlive sl_X7_isAlive dX3_mostUnlike_59 rfl ⟨Nat.le_of_ble_eq_true rfl, Nat.le_of_ble_eq_true rfl⟩ rfl (Nat.le_of_ble_eq_true rfl) ⟨Nat.zero_le _, Nat.zero_le _⟩ ?_
      refine z_if_eq F 94 dX3_mostUnlike_62 rfl (fun hc => ?_) (fun hc => ?_)
      · replace h := zif_t hc h
        refine z_iinc F [(6, .int (x6 + (1 : Int32))), (7, .int r_2), (0, zr G x0), (1, .int x1), (2, .int x2), (3, .int x3), (4, .int x4), (5, .int x5)] dX3_mostUnlike_94 7 rfl rfl (Nat.le_of_ble_eq_true rfl) rfl ?_
        refine z_goto F 28 dX3_mostUnlike_97 rfl ?_
        refine z_ls [(0, zr G x0), (1, .int x1), (2, .int x2), (3, .int x3), (4, .int x4), (5, .int x5), (6, .int (x6 + (1 : Int32)))] [2, 3, 4, 5, 6, 7, 0] rfl ?_
        exact ih x0 t0 x1 x2 x3 x4 x5 (x6 + (1 : Int32)) v_3 h
      · replace h := zif_f hc h
        refine z_aload_n F dX3_mostUnlike_65 rfl 1 rfl ?_
        refine zg_3_1 F t0 wF_X3_19 dX3_mostUnlike_66 ?_
        refine z_iload F dX3_mostUnlike_69 7 rfl ?_
        obtain ⟨r_6, v_5, hq71, h⟩ := zbind_ex h
        refine z_callVi F [.int x6] [] (kX7_isAlive x.2.1 G (zrf x0 1) (zt_f tc_3_1 t0) x6 v_3 r_6 v_5 hq71) mI_X7_isAlive (c := 7) rfl (zt_f tc_3_1 t0) wM_X3_39 mi_X7_isAlive sl_X7_isAlive dX3_mostUnlike_71 rfl ⟨Nat.le_of_ble_eq_true rfl, Nat.le_of_ble_eq_true rfl⟩ rfl (Nat.le_of_ble_eq_true rfl) ⟨Nat.zero_le _, Nat.zero_le _⟩ ?_
        refine z_if_eq F 94 dX3_mostUnlike_74 rfl (fun hc => ?_) (fun hc => ?_)
        · replace h := zif_t hc h
          refine z_iinc F [(6, .int (x6 + (1 : Int32))), (7, .int r_2), (0, zr G x0), (1, .int x1), (2, .int x2), (3, .int x3), (4, .int x4), (5, .int x5)] dX3_mostUnlike_94 7 rfl rfl (Nat.le_of_ble_eq_true rfl) rfl ?_
          refine z_goto F 28 dX3_mostUnlike_97 rfl ?_
          refine z_ls [(0, zr G x0), (1, .int x1), (2, .int x2), (3, .int x3), (4, .int x4), (5, .int x5), (6, .int (x6 + (1 : Int32)))] [2, 3, 4, 5, 6, 7, 0] rfl ?_
          exact ih x0 t0 x1 x2 x3 x4 x5 (x6 + (1 : Int32)) v_5 h
        · replace h := zif_f hc h
          refine z_iload F dX3_mostUnlike_77 0 rfl ?_
          refine z_iload F dX3_mostUnlike_79 5 rfl ?_
          refine z_icmp_le F 94 dX3_mostUnlike_81 rfl (fun hc => ?_) (fun hc => ?_)
          · replace h := zif_t hc h
            refine z_iinc F [(6, .int (x6 + (1 : Int32))), (7, .int r_2), (0, zr G x0), (1, .int x1), (2, .int x2), (3, .int x3), (4, .int x4), (5, .int x5)] dX3_mostUnlike_94 7 rfl rfl (Nat.le_of_ble_eq_true rfl) rfl ?_
            refine z_goto F 28 dX3_mostUnlike_97 rfl ?_
            refine z_ls [(0, zr G x0), (1, .int x1), (2, .int x2), (3, .int x3), (4, .int x4), (5, .int x5), (6, .int (x6 + (1 : Int32)))] [2, 3, 4, 5, 6, 7, 0] rfl ?_
            exact ih x0 t0 x1 x2 x3 x4 x5 (x6 + (1 : Int32)) v_5 h
          · replace h := zif_f hc h
            refine z_iload F dX3_mostUnlike_84 6 rfl ?_
            refine z_istore_n F [(2, .int x5), (7, .int r_2), (0, zr G x0), (1, .int x1), (3, .int x3), (4, .int x4), (5, .int x5), (6, .int x6)] dX3_mostUnlike_86 rfl (Nat.le_of_ble_eq_true rfl) rfl ?_
            refine z_iload F dX3_mostUnlike_87 7 rfl ?_
            refine z_istore_n F [(3, .int x6), (2, .int x5), (7, .int r_2), (0, zr G x0), (1, .int x1), (4, .int x4), (5, .int x5), (6, .int x6)] dX3_mostUnlike_89 rfl (Nat.le_of_ble_eq_true rfl) rfl ?_
            refine z_iload F dX3_mostUnlike_90 2 rfl ?_
            refine z_istore (n := 0) F [(4, .int r_2), (3, .int x6), (2, .int x5), (7, .int r_2), (0, zr G x0), (1, .int x1), (5, .int x5), (6, .int x6)] dX3_mostUnlike_92 (Nat.le_of_ble_eq_true rfl) rfl ?_
            refine z_iinc F [(6, .int (x6 + (1 : Int32))), (4, .int r_2), (3, .int x6), (2, .int x5), (7, .int r_2), (0, zr G x0), (1, .int x1), (5, .int x5)] dX3_mostUnlike_94 7 rfl rfl (Nat.le_of_ble_eq_true rfl) rfl ?_
            refine z_goto F 28 dX3_mostUnlike_97 rfl ?_
            refine z_ls [(0, zr G x0), (1, .int x1), (2, .int x5), (3, .int x6), (4, .int r_2), (5, .int x5), (6, .int (x6 + (1 : Int32)))] [5, 6, 3, 2, 1, 7, 0] rfl ?_
            exact ih x0 t0 x1 x5 x6 r_2 x5 (x6 + (1 : Int32)) v_5 h

def fX3_mostUnlike_10  : Nat → Nat → Int32 → Int32 → Int32 → Int32 → Int32 → zV → Option (Int32 × zV)
  | 0 => fun _ _ _ _ _ _ _ => none
  | n + 1 => fun x0 x1 x2 x3 x4 x5 v =>
    if (v (zrf x0 0) 1) ≤ x5 then
      if x1 = (0 : Int32) then
        some (x2, v)
      else
        if x1 = (1 : Int32) then
          some (x3, v)
        else
          some (x4, v)
    else
      fX3_mostUnlike_28 (fX3_mostUnlike_10 n) zFU x0 x1 x2 x3 x4 x5 (x5 + (1 : Int32)) v
set_option maxRecDepth 4000 in
theorem jX3_mostUnlike_10 (x : zCx) (G : zG) (F : zF x G cX3_mostUnlike 8 RX3 3 124) (hr : x.2.2.2.2.2.2.2.2.1.sig.returnType = (Option.some FieldType.int)) (hk : x.2.2.2.2.2.2.2.2.1.locks = false) (r : Int32) (w : zV)  : ∀ (n : Nat) (x0 : Nat) (t0 : zty G x0 1 3) (x1 : Int32) (x2 : Int32) (x3 : Int32) (x4 : Int32) (x5 : Int32) (v : zV), fX3_mostUnlike_10 n x0 x1 x2 x3 x4 x5 v = some (r, w) → zJ x G 8 (zQ x G (some (.int r)) w 0 0) 0 0 10 [(0, zr G x0), (1, .int x1), (2, .int x2), (3, .int x3), (4, .int x4), (5, .int x5)] [] v := by
  intro n
  induction n with
  | zero => intro x0 t0 x1 x2 x3 x4 x5 v h; exact absurd h (by intro q; cases q)
  | succ n ih =>
    intro x0 t0 x1 x2 x3 x4 x5 v h
    rw [fX3_mostUnlike_10] at h
    dsimp only at h
    refine z_iload F dX3_mostUnlike_10 5 rfl ?_
    refine z_aload_n F dX3_mostUnlike_12 rfl 0 rfl ?_
    refine zg_3_0 F t0 wF_X3_15 dX3_mostUnlike_13 ?_
    refine zg_0_1 F (zt_f tc_3_0 t0) wF_X3_23 dX3_mostUnlike_16 ?_
    refine z_icmp_ge F 106 dX3_mostUnlike_19 rfl (fun hc => ?_) (fun hc => ?_)
    · replace h := zif_t hc h
      refine z_iload_n F dX3_mostUnlike_106 rfl 1 rfl ?_
      by_cases hc : x1 = (0 : Int32)
      · replace h := zif_t hc h
        refine z_lkIn F 132 hc dX3_mostUnlike_107 (by decide) rfl rfl ?_
        refine z_iload_n F dX3_mostUnlike_132 rfl 2 rfl ?_
        cases h
        exact z_reti F hr hk dX3_mostUnlike_133
      · replace h := zif_f hc h
        have hn0 := zsw_ne hc
        by_cases hc : x1 = (1 : Int32)
        · replace h := zif_t hc h
          refine z_lkIn F 134 hc dX3_mostUnlike_107 (by decide) rfl rfl ?_
          refine z_iload_n F dX3_mostUnlike_134 rfl 3 rfl ?_
          cases h
          exact z_reti F hr hk dX3_mostUnlike_135
        · replace h := zif_f hc h
          have hn1 := zsw_ne hc
          refine z_lookup F 136 dX3_mostUnlike_107 (by decide) (zlk_2 hn0 hn1) rfl ?_
          refine z_iload F dX3_mostUnlike_136 4 rfl ?_
          cases h
          exact z_reti F hr hk dX3_mostUnlike_138
    · replace h := zif_f hc h
      refine z_iload F dX3_mostUnlike_22 5 rfl ?_
      refine z_iconst (y := (1 : Int32)) F dX3_mostUnlike_24 rfl ?_
      refine z_iadd F dX3_mostUnlike_25 ?_
      refine z_istore (n := 0) F [(6, .int (x5 + (1 : Int32))), (0, zr G x0), (1, .int x1), (2, .int x2), (3, .int x3), (4, .int x4), (5, .int x5)] dX3_mostUnlike_26 (Nat.le_of_ble_eq_true rfl) rfl ?_
      refine z_ls [(0, zr G x0), (1, .int x1), (2, .int x2), (3, .int x3), (4, .int x4), (5, .int x5), (6, .int (x5 + (1 : Int32)))] [1, 2, 3, 4, 5, 6, 0] rfl ?_
      exact jX3_mostUnlike_28 x G F hr hk r w (fX3_mostUnlike_10 n) ih zFU x0 t0 x1 x2 x3 x4 x5 (x5 + (1 : Int32)) v h

def fX3_mostUnlike (x0 : Nat) (x1 : Int32) (v : zV) : Option (Int32 × zV) :=
  fX3_mostUnlike_10  zFU x0 x1 (-1 : Int32) (-1 : Int32) (-1 : Int32) (0 : Int32) v
set_option maxRecDepth 4000 in
theorem kX3_mostUnlike (l : Launch) (G : zG) (x0 : Nat) (t0 : zty G x0 1 3) (x1 : Int32) (v : zV) (r : Int32) (w : zV) (h : fX3_mostUnlike x0 x1 v = some (r, w)) : zMet l yX3_mostUnlike cX3_mostUnlike 8 (Option.some FieldType.int) 3 124 0 0 [zr G x0, .int x1] G v (some (.int r)) w := by
  refine zM_of (own := RX3) (by decide) rfl (Nat.le_of_ble_eq_true rfl) (fun x hl F hr hk hcs => ?_)
  subst hl
  refine z_ls [(0, zr G x0), (1, .int x1)] [0, 1] rfl ?_
  unfold fX3_mostUnlike at h
  refine z_iconst (y := (-1 : Int32)) F dX3_mostUnlike_0 rfl ?_
  refine z_istore_n F [(2, .int (-1 : Int32)), (0, zr G x0), (1, .int x1)] dX3_mostUnlike_1 rfl (Nat.le_of_ble_eq_true rfl) rfl ?_
  refine z_iconst (y := (-1 : Int32)) F dX3_mostUnlike_2 rfl ?_
  refine z_istore_n F [(3, .int (-1 : Int32)), (2, .int (-1 : Int32)), (0, zr G x0), (1, .int x1)] dX3_mostUnlike_3 rfl (Nat.le_of_ble_eq_true rfl) rfl ?_
  refine z_iconst (y := (-1 : Int32)) F dX3_mostUnlike_4 rfl ?_
  refine z_istore (n := 0) F [(4, .int (-1 : Int32)), (3, .int (-1 : Int32)), (2, .int (-1 : Int32)), (0, zr G x0), (1, .int x1)] dX3_mostUnlike_5 (Nat.le_of_ble_eq_true rfl) rfl ?_
  refine z_iconst (y := (0 : Int32)) F dX3_mostUnlike_7 rfl ?_
  refine z_istore (n := 0) F [(5, .int (0 : Int32)), (4, .int (-1 : Int32)), (3, .int (-1 : Int32)), (2, .int (-1 : Int32)), (0, zr G x0), (1, .int x1)] dX3_mostUnlike_8 (Nat.le_of_ble_eq_true rfl) rfl ?_
  refine z_ls [(0, zr G x0), (1, .int x1), (2, .int (-1 : Int32)), (3, .int (-1 : Int32)), (4, .int (-1 : Int32)), (5, .int (0 : Int32))] [4, 5, 3, 2, 1, 0] rfl ?_
  exact jX3_mostUnlike_10 x G F hr hk r w   zFU x0 t0 x1 (-1 : Int32) (-1 : Int32) (-1 : Int32) (0 : Int32) v h

theorem dX3_unlikeRows_0 : decode cX3_unlikeRows 0 = .ok (.iconst 0, 1) := by decide +kernel
theorem dX3_unlikeRows_1 : decode cX3_unlikeRows 1 = .ok (.istore_n 1, 1) := by decide +kernel
theorem dX3_unlikeRows_2 : decode cX3_unlikeRows 2 = .ok (.iconst 0, 1) := by decide +kernel
theorem dX3_unlikeRows_3 : decode cX3_unlikeRows 3 = .ok (.istore_n 2, 1) := by decide +kernel
theorem dX3_unlikeRows_4 : decode cX3_unlikeRows 4 = .ok (.iload_n 2, 1) := by decide +kernel
theorem dX3_unlikeRows_5 : decode cX3_unlikeRows 5 = .ok (.aload_n 0, 1) := by decide +kernel
theorem dX3_unlikeRows_6 : decode cX3_unlikeRows 6 = .ok (.getfield 19, 3) := by decide +kernel
theorem dX3_unlikeRows_9 : decode cX3_unlikeRows 9 = .ok (.getfield 74, 3) := by decide +kernel
theorem dX3_unlikeRows_12 : decode cX3_unlikeRows 12 = .ok (.if_icmp .ge 75, 3) := by decide +kernel
theorem dX3_unlikeRows_15 : decode cX3_unlikeRows 15 = .ok (.iconst 1, 1) := by decide +kernel
theorem dX3_unlikeRows_16 : decode cX3_unlikeRows 16 = .ok (.istore_n 3, 1) := by decide +kernel
theorem dX3_unlikeRows_17 : decode cX3_unlikeRows 17 = .ok (.iconst 0, 1) := by decide +kernel
theorem dX3_unlikeRows_18 : decode cX3_unlikeRows 18 = .ok (.istore 4, 2) := by decide +kernel
theorem dX3_unlikeRows_20 : decode cX3_unlikeRows 20 = .ok (.iload 4, 2) := by decide +kernel
theorem dX3_unlikeRows_22 : decode cX3_unlikeRows 22 = .ok (.iload_n 2, 1) := by decide +kernel
theorem dX3_unlikeRows_23 : decode cX3_unlikeRows 23 = .ok (.if_icmp .ge 46, 3) := by decide +kernel
theorem dX3_unlikeRows_26 : decode cX3_unlikeRows 26 = .ok (.iload_n 3, 1) := by decide +kernel
theorem dX3_unlikeRows_27 : decode cX3_unlikeRows 27 = .ok (.ifCond .eq 34, 3) := by decide +kernel
theorem dX3_unlikeRows_30 : decode cX3_unlikeRows 30 = .ok (.aload_n 0, 1) := by decide +kernel
theorem dX3_unlikeRows_31 : decode cX3_unlikeRows 31 = .ok (.getfield 15, 3) := by decide +kernel
theorem dX3_unlikeRows_34 : decode cX3_unlikeRows 34 = .ok (.aload_n 0, 1) := by decide +kernel
theorem dX3_unlikeRows_35 : decode cX3_unlikeRows 35 = .ok (.getfield 19, 3) := by decide +kernel
theorem dX3_unlikeRows_38 : decode cX3_unlikeRows 38 = .ok (.iload 4, 2) := by decide +kernel
theorem dX3_unlikeRows_40 : decode cX3_unlikeRows 40 = .ok (.invokevirtual 54, 3) := by decide +kernel
theorem dX3_unlikeRows_43 : decode cX3_unlikeRows 43 = .ok (.aload_n 0, 1) := by decide +kernel
theorem dX3_unlikeRows_44 : decode cX3_unlikeRows 44 = .ok (.getfield 19, 3) := by decide +kernel
theorem dX3_unlikeRows_47 : decode cX3_unlikeRows 47 = .ok (.iload_n 2, 1) := by decide +kernel
theorem dX3_unlikeRows_48 : decode cX3_unlikeRows 48 = .ok (.invokevirtual 54, 3) := by decide +kernel
theorem dX3_unlikeRows_51 : decode cX3_unlikeRows 51 = .ok (.invokevirtual 95, 3) := by decide +kernel
theorem dX3_unlikeRows_54 : decode cX3_unlikeRows 54 = .ok (.ifCond .ne 7, 3) := by decide +kernel
theorem dX3_unlikeRows_57 : decode cX3_unlikeRows 57 = .ok (.iconst 1, 1) := by decide +kernel
theorem dX3_unlikeRows_58 : decode cX3_unlikeRows 58 = .ok (.goto 4, 3) := by decide +kernel
theorem dX3_unlikeRows_61 : decode cX3_unlikeRows 61 = .ok (.iconst 0, 1) := by decide +kernel
theorem dX3_unlikeRows_62 : decode cX3_unlikeRows 62 = .ok (.istore_n 3, 1) := by decide +kernel
theorem dX3_unlikeRows_63 : decode cX3_unlikeRows 63 = .ok (.iinc 4 1, 3) := by decide +kernel
theorem dX3_unlikeRows_66 : decode cX3_unlikeRows 66 = .ok (.goto (-46), 3) := by decide +kernel
theorem dX3_unlikeRows_69 : decode cX3_unlikeRows 69 = .ok (.iload_n 1, 1) := by decide +kernel
theorem dX3_unlikeRows_70 : decode cX3_unlikeRows 70 = .ok (.iload_n 3, 1) := by decide +kernel
theorem dX3_unlikeRows_71 : decode cX3_unlikeRows 71 = .ok (.ifCond .eq 7, 3) := by decide +kernel
theorem dX3_unlikeRows_74 : decode cX3_unlikeRows 74 = .ok (.iconst 1, 1) := by decide +kernel
theorem dX3_unlikeRows_75 : decode cX3_unlikeRows 75 = .ok (.goto 4, 3) := by decide +kernel
theorem dX3_unlikeRows_78 : decode cX3_unlikeRows 78 = .ok (.iconst 0, 1) := by decide +kernel
theorem dX3_unlikeRows_79 : decode cX3_unlikeRows 79 = .ok (.iadd, 1) := by decide +kernel
theorem dX3_unlikeRows_80 : decode cX3_unlikeRows 80 = .ok (.istore_n 1, 1) := by decide +kernel
theorem dX3_unlikeRows_81 : decode cX3_unlikeRows 81 = .ok (.iinc 2 1, 3) := by decide +kernel
theorem dX3_unlikeRows_84 : decode cX3_unlikeRows 84 = .ok (.goto (-80), 3) := by decide +kernel
theorem dX3_unlikeRows_87 : decode cX3_unlikeRows 87 = .ok (.iload_n 1, 1) := by decide +kernel
theorem dX3_unlikeRows_88 : decode cX3_unlikeRows 88 = .ok (.ireturn, 1) := by decide +kernel
def fX3_unlikeRows_20 (K4 : Nat → Int32 → Int32 → zV → Option (Int32 × zV)) : Nat → Nat → Int32 → Int32 → Int32 → Int32 → zV → Option (Int32 × zV)
  | 0 => fun _ _ _ _ _ _ => none
  | n + 1 => fun x0 x1 x2 x3 x4 v =>
    if x2 ≤ x4 then
      if x3 = (0 : Int32) then
        K4 x0 (x1 + (0 : Int32)) (x2 + (1 : Int32)) v
      else
        K4 x0 (x1 + (1 : Int32)) (x2 + (1 : Int32)) v
    else
      if x3 = (0 : Int32) then
        (fX3_unlikeRows_20 K4 n) x0 x1 x2 (0 : Int32) (x4 + (1 : Int32)) v
      else
        zbind (fX7_onChair (zrf x0 1) x4 v) fun r_2 v_1 =>
        zbind (fX7_onChair (zrf x0 1) x2 v_1) fun r_4 v_3 =>
        zbind (fX0_believeTheSame (zrf x0 0) r_2 r_4 v_3) fun r_6 v_5 =>
        if r_6 = (0 : Int32) then
          (fX3_unlikeRows_20 K4 n) x0 x1 x2 (1 : Int32) (x4 + (1 : Int32)) v_5
        else
          (fX3_unlikeRows_20 K4 n) x0 x1 x2 (0 : Int32) (x4 + (1 : Int32)) v_5
set_option maxRecDepth 4000 in
theorem jX3_unlikeRows_20 (x : zCx) (G : zG) (F : zF x G cX3_unlikeRows 5 RX3 3 123) (hr : x.2.2.2.2.2.2.2.2.1.sig.returnType = (Option.some FieldType.int)) (hk : x.2.2.2.2.2.2.2.2.1.locks = false) (r : Int32) (w : zV) (K4 : Nat → Int32 → Int32 → zV → Option (Int32 × zV)) (hK4 : ∀ (x0 : Nat) (t0 : zty G x0 1 3) (x1 : Int32) (x2 : Int32) (v : zV), K4 x0 x1 x2 v = some (r, w) → zJ x G 5 (zQ x G (some (.int r)) w 0 0) 0 0 4 [(0, zr G x0), (1, .int x1), (2, .int x2)] [] v) : ∀ (n : Nat) (x0 : Nat) (t0 : zty G x0 1 3) (x1 : Int32) (x2 : Int32) (x3 : Int32) (x4 : Int32) (v : zV), fX3_unlikeRows_20 K4 n x0 x1 x2 x3 x4 v = some (r, w) → zJ x G 5 (zQ x G (some (.int r)) w 0 0) 0 0 20 [(0, zr G x0), (1, .int x1), (2, .int x2), (3, .int x3), (4, .int x4)] [] v := by
  intro n
  induction n with
  | zero => intro x0 t0 x1 x2 x3 x4 v h; exact absurd h (by intro q; cases q)
  | succ n ih =>
    intro x0 t0 x1 x2 x3 x4 v h
    rw [fX3_unlikeRows_20] at h
    dsimp only at h
    refine z_iload F dX3_unlikeRows_20 4 rfl ?_
    refine z_iload_n F dX3_unlikeRows_22 rfl 2 rfl ?_
    refine z_icmp_ge F 69 dX3_unlikeRows_23 rfl (fun hc => ?_) (fun hc => ?_)
    · replace h := zif_t hc h
      refine z_iload_n F dX3_unlikeRows_69 rfl 1 rfl ?_
      refine z_iload_n F dX3_unlikeRows_70 rfl 3 rfl ?_
      refine z_if_eq F 78 dX3_unlikeRows_71 rfl (fun hc => ?_) (fun hc => ?_)
      · replace h := zif_t hc h
        refine z_iconst (y := (0 : Int32)) F dX3_unlikeRows_78 rfl ?_
        refine z_iadd F dX3_unlikeRows_79 ?_
        refine z_istore_n F [(1, .int (x1 + (0 : Int32))), (0, zr G x0), (2, .int x2), (3, .int x3), (4, .int x4)] dX3_unlikeRows_80 rfl (Nat.le_of_ble_eq_true rfl) rfl ?_
        refine z_iinc F [(2, .int (x2 + (1 : Int32))), (1, .int (x1 + (0 : Int32))), (0, zr G x0), (3, .int x3), (4, .int x4)] dX3_unlikeRows_81 2 rfl rfl (Nat.le_of_ble_eq_true rfl) rfl ?_
        refine z_goto F 4 dX3_unlikeRows_84 rfl ?_
        refine z_ls [(0, zr G x0), (1, .int (x1 + (0 : Int32))), (2, .int (x2 + (1 : Int32)))] [2, 1, 0] rfl ?_
        exact hK4 x0 t0 (x1 + (0 : Int32)) (x2 + (1 : Int32)) v h
      · replace h := zif_f hc h
        refine z_iconst (y := (1 : Int32)) F dX3_unlikeRows_74 rfl ?_
        refine z_goto F 79 dX3_unlikeRows_75 rfl ?_
        refine z_iadd F dX3_unlikeRows_79 ?_
        refine z_istore_n F [(1, .int (x1 + (1 : Int32))), (0, zr G x0), (2, .int x2), (3, .int x3), (4, .int x4)] dX3_unlikeRows_80 rfl (Nat.le_of_ble_eq_true rfl) rfl ?_
        refine z_iinc F [(2, .int (x2 + (1 : Int32))), (1, .int (x1 + (1 : Int32))), (0, zr G x0), (3, .int x3), (4, .int x4)] dX3_unlikeRows_81 2 rfl rfl (Nat.le_of_ble_eq_true rfl) rfl ?_
        refine z_goto F 4 dX3_unlikeRows_84 rfl ?_
        refine z_ls [(0, zr G x0), (1, .int (x1 + (1 : Int32))), (2, .int (x2 + (1 : Int32)))] [2, 1, 0] rfl ?_
        exact hK4 x0 t0 (x1 + (1 : Int32)) (x2 + (1 : Int32)) v h
    · replace h := zif_f hc h
      refine z_iload_n F dX3_unlikeRows_26 rfl 3 rfl ?_
      refine z_if_eq F 61 dX3_unlikeRows_27 rfl (fun hc => ?_) (fun hc => ?_)
      · replace h := zif_t hc h
        refine z_iconst (y := (0 : Int32)) F dX3_unlikeRows_61 rfl ?_
        refine z_istore_n F [(3, .int (0 : Int32)), (0, zr G x0), (1, .int x1), (2, .int x2), (4, .int x4)] dX3_unlikeRows_62 rfl (Nat.le_of_ble_eq_true rfl) rfl ?_
        refine z_iinc F [(4, .int (x4 + (1 : Int32))), (3, .int (0 : Int32)), (0, zr G x0), (1, .int x1), (2, .int x2)] dX3_unlikeRows_63 4 rfl rfl (Nat.le_of_ble_eq_true rfl) rfl ?_
        refine z_goto F 20 dX3_unlikeRows_66 rfl ?_
        refine z_ls [(0, zr G x0), (1, .int x1), (2, .int x2), (3, .int (0 : Int32)), (4, .int (x4 + (1 : Int32)))] [2, 3, 4, 1, 0] rfl ?_
        exact ih x0 t0 x1 x2 (0 : Int32) (x4 + (1 : Int32)) v h
      · replace h := zif_f hc h
        refine z_aload_n F dX3_unlikeRows_30 rfl 0 rfl ?_
        refine zg_3_0 F t0 wF_X3_15 dX3_unlikeRows_31 ?_
        refine z_aload_n F dX3_unlikeRows_34 rfl 0 rfl ?_
        refine zg_3_1 F t0 wF_X3_19 dX3_unlikeRows_35 ?_
        refine z_iload F dX3_unlikeRows_38 4 rfl ?_
        obtain ⟨r_2, v_1, hq40, h⟩ := zbind_ex h
        refine z_callVi F [.int x4] [zr G (zrf x0 0)] (kX7_onChair x.2.1 G (zrf x0 1) (zt_f tc_3_1 t0) x4 v r_2 v_1 hq40) mI_X7_onChair (c := 7) rfl (zt_f tc_3_1 t0) wM_X3_54 mi_X7_onChair sl_X7_onChair dX3_unlikeRows_40 rfl ⟨Nat.le_of_ble_eq_true rfl, Nat.le_of_ble_eq_true rfl⟩ rfl (Nat.le_of_ble_eq_true rfl) ⟨Nat.zero_le _, Nat.zero_le _⟩ ?_
        refine z_aload_n F dX3_unlikeRows_43 rfl 0 rfl ?_
        refine zg_3_1 F t0 wF_X3_19 dX3_unlikeRows_44 ?_
        refine z_iload_n F dX3_unlikeRows_47 rfl 2 rfl ?_
        obtain ⟨r_4, v_3, hq48, h⟩ := zbind_ex h
        refine z_callVi F [.int x2] [.int r_2, zr G (zrf x0 0)] (kX7_onChair x.2.1 G (zrf x0 1) (zt_f tc_3_1 t0) x2 v_1 r_4 v_3 hq48) mI_X7_onChair (c := 7) rfl (zt_f tc_3_1 t0) wM_X3_54 mi_X7_onChair sl_X7_onChair dX3_unlikeRows_48 rfl ⟨Nat.le_of_ble_eq_true rfl, Nat.le_of_ble_eq_true rfl⟩ rfl (Nat.le_of_ble_eq_true rfl) ⟨Nat.zero_le _, Nat.zero_le _⟩ ?_
        obtain ⟨r_6, v_5, hq51, h⟩ := zbind_ex h
        refine z_callVi F [.int r_2, .int r_4] [] (kX0_believeTheSame x.2.1 G (zrf x0 0) (zt_f tc_3_0 t0) r_2 r_4 v_3 r_6 v_5 hq51) mI_X0_believeTheSame (c := 0) rfl (zt_f tc_3_0 t0) wM_X3_95 mi_X0_believeTheSame sl_X0_believeTheSame dX3_unlikeRows_51 rfl ⟨Nat.le_of_ble_eq_true rfl, Nat.le_of_ble_eq_true rfl⟩ rfl (Nat.le_of_ble_eq_true rfl) ⟨Nat.zero_le _, Nat.zero_le _⟩ ?_
        refine z_if_ne F 61 dX3_unlikeRows_54 rfl (fun hc => ?_) (fun hc => ?_)
        · replace h := zif_f hc h
          refine z_iconst (y := (0 : Int32)) F dX3_unlikeRows_61 rfl ?_
          refine z_istore_n F [(3, .int (0 : Int32)), (0, zr G x0), (1, .int x1), (2, .int x2), (4, .int x4)] dX3_unlikeRows_62 rfl (Nat.le_of_ble_eq_true rfl) rfl ?_
          refine z_iinc F [(4, .int (x4 + (1 : Int32))), (3, .int (0 : Int32)), (0, zr G x0), (1, .int x1), (2, .int x2)] dX3_unlikeRows_63 4 rfl rfl (Nat.le_of_ble_eq_true rfl) rfl ?_
          refine z_goto F 20 dX3_unlikeRows_66 rfl ?_
          refine z_ls [(0, zr G x0), (1, .int x1), (2, .int x2), (3, .int (0 : Int32)), (4, .int (x4 + (1 : Int32)))] [2, 3, 4, 1, 0] rfl ?_
          exact ih x0 t0 x1 x2 (0 : Int32) (x4 + (1 : Int32)) v_5 h
        · replace h := zif_t hc h
          refine z_iconst (y := (1 : Int32)) F dX3_unlikeRows_57 rfl ?_
          refine z_goto F 62 dX3_unlikeRows_58 rfl ?_
          refine z_istore_n F [(3, .int (1 : Int32)), (0, zr G x0), (1, .int x1), (2, .int x2), (4, .int x4)] dX3_unlikeRows_62 rfl (Nat.le_of_ble_eq_true rfl) rfl ?_
          refine z_iinc F [(4, .int (x4 + (1 : Int32))), (3, .int (1 : Int32)), (0, zr G x0), (1, .int x1), (2, .int x2)] dX3_unlikeRows_63 4 rfl rfl (Nat.le_of_ble_eq_true rfl) rfl ?_
          refine z_goto F 20 dX3_unlikeRows_66 rfl ?_
          refine z_ls [(0, zr G x0), (1, .int x1), (2, .int x2), (3, .int (1 : Int32)), (4, .int (x4 + (1 : Int32)))] [2, 3, 4, 1, 0] rfl ?_
          exact ih x0 t0 x1 x2 (1 : Int32) (x4 + (1 : Int32)) v_5 h

def fX3_unlikeRows_4  : Nat → Nat → Int32 → Int32 → zV → Option (Int32 × zV)
  | 0 => fun _ _ _ _ => none
  | n + 1 => fun x0 x1 x2 v =>
    if (v (zrf x0 1) 1) ≤ x2 then
      some (x1, v)
    else
      fX3_unlikeRows_20 (fX3_unlikeRows_4 n) zFU x0 x1 x2 (1 : Int32) (0 : Int32) v
set_option maxRecDepth 4000 in
theorem jX3_unlikeRows_4 (x : zCx) (G : zG) (F : zF x G cX3_unlikeRows 5 RX3 3 123) (hr : x.2.2.2.2.2.2.2.2.1.sig.returnType = (Option.some FieldType.int)) (hk : x.2.2.2.2.2.2.2.2.1.locks = false) (r : Int32) (w : zV)  : ∀ (n : Nat) (x0 : Nat) (t0 : zty G x0 1 3) (x1 : Int32) (x2 : Int32) (v : zV), fX3_unlikeRows_4 n x0 x1 x2 v = some (r, w) → zJ x G 5 (zQ x G (some (.int r)) w 0 0) 0 0 4 [(0, zr G x0), (1, .int x1), (2, .int x2)] [] v := by
  intro n
  induction n with
  | zero => intro x0 t0 x1 x2 v h; exact absurd h (by intro q; cases q)
  | succ n ih =>
    intro x0 t0 x1 x2 v h
    rw [fX3_unlikeRows_4] at h
    dsimp only at h
    refine z_iload_n F dX3_unlikeRows_4 rfl 2 rfl ?_
    refine z_aload_n F dX3_unlikeRows_5 rfl 0 rfl ?_
    refine zg_3_1 F t0 wF_X3_19 dX3_unlikeRows_6 ?_
    refine zg_7_1 F (zt_f tc_3_1 t0) wF_X3_74 dX3_unlikeRows_9 ?_
    refine z_icmp_ge F 87 dX3_unlikeRows_12 rfl (fun hc => ?_) (fun hc => ?_)
    · replace h := zif_t hc h
      refine z_iload_n F dX3_unlikeRows_87 rfl 1 rfl ?_
      cases h
      exact z_reti F hr hk dX3_unlikeRows_88
    · replace h := zif_f hc h
      refine z_iconst (y := (1 : Int32)) F dX3_unlikeRows_15 rfl ?_
      refine z_istore_n F [(3, .int (1 : Int32)), (0, zr G x0), (1, .int x1), (2, .int x2)] dX3_unlikeRows_16 rfl (Nat.le_of_ble_eq_true rfl) rfl ?_
      refine z_iconst (y := (0 : Int32)) F dX3_unlikeRows_17 rfl ?_
      refine z_istore (n := 0) F [(4, .int (0 : Int32)), (3, .int (1 : Int32)), (0, zr G x0), (1, .int x1), (2, .int x2)] dX3_unlikeRows_18 (Nat.le_of_ble_eq_true rfl) rfl ?_
      refine z_ls [(0, zr G x0), (1, .int x1), (2, .int x2), (3, .int (1 : Int32)), (4, .int (0 : Int32))] [2, 3, 4, 1, 0] rfl ?_
      exact jX3_unlikeRows_20 x G F hr hk r w (fX3_unlikeRows_4 n) ih zFU x0 t0 x1 x2 (1 : Int32) (0 : Int32) v h

def fX3_unlikeRows (x0 : Nat) (v : zV) : Option (Int32 × zV) :=
  fX3_unlikeRows_4  zFU x0 (0 : Int32) (0 : Int32) v
set_option maxRecDepth 4000 in
theorem kX3_unlikeRows (l : Launch) (G : zG) (x0 : Nat) (t0 : zty G x0 1 3) (v : zV) (r : Int32) (w : zV) (h : fX3_unlikeRows x0 v = some (r, w)) : zMet l yX3_unlikeRows cX3_unlikeRows 5 (Option.some FieldType.int) 3 123 0 0 [zr G x0] G v (some (.int r)) w := by
  refine zM_of (own := RX3) (by decide) rfl (Nat.le_of_ble_eq_true rfl) (fun x hl F hr hk hcs => ?_)
  subst hl
  refine z_ls [(0, zr G x0)] [0] rfl ?_
  unfold fX3_unlikeRows at h
  refine z_iconst (y := (0 : Int32)) F dX3_unlikeRows_0 rfl ?_
  refine z_istore_n F [(1, .int (0 : Int32)), (0, zr G x0)] dX3_unlikeRows_1 rfl (Nat.le_of_ble_eq_true rfl) rfl ?_
  refine z_iconst (y := (0 : Int32)) F dX3_unlikeRows_2 rfl ?_
  refine z_istore_n F [(2, .int (0 : Int32)), (1, .int (0 : Int32)), (0, zr G x0)] dX3_unlikeRows_3 rfl (Nat.le_of_ble_eq_true rfl) rfl ?_
  refine z_ls [(0, zr G x0), (1, .int (0 : Int32)), (2, .int (0 : Int32))] [2, 1, 0] rfl ?_
  exact jX3_unlikeRows_4 x G F hr hk r w   zFU x0 t0 (0 : Int32) (0 : Int32) v h

