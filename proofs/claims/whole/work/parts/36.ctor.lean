theorem zob_2 : Cond.instanceMethod objectInit ∈ zTbl := zTbl_of (zin_1 (List.mem_of_getElem? (i := 30) (by decide +kernel))) rfl
theorem zob_3 : Cond.code objectInit ⟨#[0xb1]⟩ 1 none ∈ zTbl := zTbl_of (zin_1 (List.mem_of_getElem? (i := 31) (by decide +kernel))) rfl
theorem zac_int : Cond.arrayClass .int ∈ zTbl := zTbl_of (zin_1 (List.mem_of_getElem? (i := 137) (by decide +kernel))) rfl
theorem zac_byte : Cond.arrayClass .byte ∈ zTbl := zTbl_of (zin_1 (List.mem_of_getElem? (i := 60) (by decide +kernel))) rfl
theorem zac_long : Cond.arrayClass .long ∈ zTbl := zTbl_of (zin_9 (List.mem_of_getElem? (i := 210) (by decide +kernel))) rfl
theorem zao_row : Cond.arrayOver (.object RX7) ∈ lw_tbl := zin_2 (List.mem_of_getElem? (i := 14) (by decide +kernel))
theorem zol_X9_1 : Cond.methodLink RX9 1 objectInit ∈ zTbl := zTbl_of (zin_1 (List.mem_of_getElem? (i := 29) (by decide +kernel))) rfl
theorem zcl_X9_7 : Cond.classLink RX9 7 RX8 ∈ zTbl := zTbl_of (zin_1 (List.mem_of_getElem? (i := 32) (by decide +kernel))) rfl
theorem zin_RX8 : Cond.instantiable RX8 6 ∈ zTbl := zTbl_of (zin_1 (List.mem_of_getElem? (i := 33) (by decide +kernel))) rfl
theorem zol_X8_3 : Cond.methodLink RX8 3 objectInit ∈ zTbl := zTbl_of (zin_1 (List.mem_of_getElem? (i := 37) (by decide +kernel))) rfl
theorem dX8_init_0 : decode cX8_init 0 = .ok (.aload_n 0, 1) := by decide +kernel
theorem dX8_init_1 : decode cX8_init 1 = .ok (.invokespecial 3, 3) := by decide +kernel
theorem dX8_init_4 : decode cX8_init 4 = .ok (.aload_n 0, 1) := by decide +kernel
theorem dX8_init_5 : decode cX8_init 5 = .ok (.sipush 600, 3) := by decide +kernel
theorem dX8_init_8 : decode cX8_init 8 = .ok (.newarray .byte, 2) := by decide +kernel
theorem dX8_init_10 : decode cX8_init 10 = .ok (.putfield 9, 3) := by decide +kernel
theorem dX8_init_13 : decode cX8_init 13 = .ok (.aload_n 0, 1) := by decide +kernel
theorem dX8_init_14 : decode cX8_init 14 = .ok (.iconst (-1), 1) := by decide +kernel
theorem dX8_init_15 : decode cX8_init 15 = .ok (.putfield 15, 3) := by decide +kernel
theorem dX8_init_18 : decode cX8_init 18 = .ok (.return_, 1) := by decide +kernel
def ceX8_init_1 (G : zG) (ce : Nat → va_E) : Nat → va_E := (bup (bup (bup ce 2 (.inl (G.2.1 1, 600, (.inl (fun _ => 0))))) 1 (.inr (8, [.null, .int 0, .int 0, .int 0, .int 0, .int 0].set 0 (zr G 2)))) 1 (.inr (8, [zr G 2, .int 0, .int 0, .int 0, .int 0, .int 0].set 3 (.int (-1 : Int32)))))
set_option maxRecDepth 20000 in
set_option maxHeartbeats 2000000 in
theorem kBX8_init_1 (l : Launch) (G : zG) (ce : Nat → va_E) (hc1 : ce 1 = .inr (8, [.null, .int 0, .int 0, .int 0, .int 0, .int 0])) : zBM l yX8_init cX8_init 1 none 1 80 1 600 [zr G 1] G 2 ce 3 (ceX8_init_1 G ce) := by
  refine zBM_of (own := RX8) (by decide) rfl (Nat.le_of_ble_eq_true rfl) (fun x hl F hr hk hcs hini => ?_)
  subst hl
  refine b_ls [(0, zr G 1)] [0] rfl ?_
  refine b_aload_n F dX8_init_0 rfl 0 rfl ?_
  refine b_obj F zol_X8_3 zob_2 zob_3 (Nat.le_of_ble_eq_true rfl) (Nat.le_of_ble_eq_true rfl) (Nat.le_of_ble_eq_true rfl) dX8_init_1 ?_
  refine b_aload_n F dX8_init_4 rfl 0 rfl ?_
  refine b_sipush (y := (600 : Int32)) F dX8_init_5 rfl ?_
  refine b_newa F (atype := .byte) (ty := .byte) (a0 := (600, (.inl (fun _ => 0)))) 1 rfl rfl (by intro C q; cases q) zac_byte (fun _ => rfl) (by decide) (by decide) (Nat.le_of_ble_eq_true rfl) ⟨Nat.le_trans (Nat.le_of_ble_eq_true rfl) hcs.1, Nat.le_trans (Nat.le_of_ble_eq_true rfl) hcs.2⟩ dX8_init_8 ?_
  refine b_putF F hini (c := 8) (C := RX8) (T := TX8) (N := 6) (fs := [.null, .int 0, .int 0, .int 0, .int 0, .int 0]) (ty := tyX8 0) tyX8 tyX8_ok nmX8 rfl uw_8 0 (by decide) rfl rfl (tyX8_ok 0 (by decide)) rfl rfl (Nat.le_of_ble_eq_true rfl) hc1 (Nat.le_of_ble_eq_true rfl) wF_X8_9 dX8_init_10 ?_
  refine b_aload_n F dX8_init_13 rfl 0 rfl ?_
  refine b_iconst (y := (-1 : Int32)) F dX8_init_14 rfl ?_
  refine b_put F (c := 8) (C := RX8) (T := TX8) (N := 6) (fs := [zr G 2, .int 0, .int 0, .int 0, .int 0, .int 0]) (ty := tyX8 3) tyX8 tyX8_ok nmX8 rfl uw_8 3 (by decide) rfl (tyX8_ok 3 (by decide)) rfl rfl (Nat.le_of_ble_eq_true rfl) rfl (Nat.le_of_ble_eq_true rfl) wF_X8_15 dX8_init_15 ?_
  exact b_ret F hr hk (fun _ _ => rfl) dX8_init_18

theorem zcl_X9_16 : Cond.classLink RX9 16 RX0 ∈ zTbl := zTbl_of (zin_1 (List.mem_of_getElem? (i := 61) (by decide +kernel))) rfl
theorem zin_RX0 : Cond.instantiable RX0 16 ∈ zTbl := zTbl_of (zin_1 (List.mem_of_getElem? (i := 62) (by decide +kernel))) rfl
theorem zol_X0_3 : Cond.methodLink RX0 3 objectInit ∈ zTbl := zTbl_of (zin_1 (List.mem_of_getElem? (i := 66) (by decide +kernel))) rfl
theorem dX0_init_0 : decode cX0_init 0 = .ok (.aload_n 0, 1) := by decide +kernel
theorem dX0_init_1 : decode cX0_init 1 = .ok (.invokespecial 3, 3) := by decide +kernel
theorem dX0_init_4 : decode cX0_init 4 = .ok (.aload_n 0, 1) := by decide +kernel
theorem dX0_init_5 : decode cX0_init 5 = .ok (.bipush 6, 2) := by decide +kernel
theorem dX0_init_7 : decode cX0_init 7 = .ok (.putfield 9, 3) := by decide +kernel
theorem dX0_init_10 : decode cX0_init 10 = .ok (.aload_n 0, 1) := by decide +kernel
theorem dX0_init_11 : decode cX0_init 11 = .ok (.bipush 6, 2) := by decide +kernel
theorem dX0_init_13 : decode cX0_init 13 = .ok (.newarray .int, 2) := by decide +kernel
theorem dX0_init_15 : decode cX0_init 15 = .ok (.putfield 15, 3) := by decide +kernel
theorem dX0_init_18 : decode cX0_init 18 = .ok (.aload_n 0, 1) := by decide +kernel
theorem dX0_init_19 : decode cX0_init 19 = .ok (.bipush 16, 2) := by decide +kernel
theorem dX0_init_21 : decode cX0_init 21 = .ok (.newarray .int, 2) := by decide +kernel
theorem dX0_init_23 : decode cX0_init 23 = .ok (.putfield 19, 3) := by decide +kernel
theorem dX0_init_26 : decode cX0_init 26 = .ok (.aload_n 0, 1) := by decide +kernel
theorem dX0_init_27 : decode cX0_init 27 = .ok (.bipush 16, 2) := by decide +kernel
theorem dX0_init_29 : decode cX0_init 29 = .ok (.newarray .int, 2) := by decide +kernel
theorem dX0_init_31 : decode cX0_init 31 = .ok (.putfield 22, 3) := by decide +kernel
theorem dX0_init_34 : decode cX0_init 34 = .ok (.aload_n 0, 1) := by decide +kernel
theorem dX0_init_35 : decode cX0_init 35 = .ok (.bipush 12, 2) := by decide +kernel
theorem dX0_init_37 : decode cX0_init 37 = .ok (.newarray .int, 2) := by decide +kernel
theorem dX0_init_39 : decode cX0_init 39 = .ok (.putfield 25, 3) := by decide +kernel
theorem dX0_init_42 : decode cX0_init 42 = .ok (.aload_n 0, 1) := by decide +kernel
theorem dX0_init_43 : decode cX0_init 43 = .ok (.bipush 12, 2) := by decide +kernel
theorem dX0_init_45 : decode cX0_init 45 = .ok (.newarray .int, 2) := by decide +kernel
theorem dX0_init_47 : decode cX0_init 47 = .ok (.putfield 28, 3) := by decide +kernel
theorem dX0_init_50 : decode cX0_init 50 = .ok (.aload_n 0, 1) := by decide +kernel
theorem dX0_init_51 : decode cX0_init 51 = .ok (.bipush 12, 2) := by decide +kernel
theorem dX0_init_53 : decode cX0_init 53 = .ok (.newarray .int, 2) := by decide +kernel
theorem dX0_init_55 : decode cX0_init 55 = .ok (.putfield 31, 3) := by decide +kernel
theorem dX0_init_58 : decode cX0_init 58 = .ok (.aload_n 0, 1) := by decide +kernel
theorem dX0_init_59 : decode cX0_init 59 = .ok (.bipush 12, 2) := by decide +kernel
theorem dX0_init_61 : decode cX0_init 61 = .ok (.newarray .int, 2) := by decide +kernel
theorem dX0_init_63 : decode cX0_init 63 = .ok (.putfield 34, 3) := by decide +kernel
theorem dX0_init_66 : decode cX0_init 66 = .ok (.aload_n 0, 1) := by decide +kernel
theorem dX0_init_67 : decode cX0_init 67 = .ok (.bipush 12, 2) := by decide +kernel
theorem dX0_init_69 : decode cX0_init 69 = .ok (.newarray .int, 2) := by decide +kernel
theorem dX0_init_71 : decode cX0_init 71 = .ok (.putfield 37, 3) := by decide +kernel
theorem dX0_init_74 : decode cX0_init 74 = .ok (.aload_n 0, 1) := by decide +kernel
theorem dX0_init_75 : decode cX0_init 75 = .ok (.bipush 12, 2) := by decide +kernel
theorem dX0_init_77 : decode cX0_init 77 = .ok (.newarray .int, 2) := by decide +kernel
theorem dX0_init_79 : decode cX0_init 79 = .ok (.putfield 40, 3) := by decide +kernel
theorem dX0_init_82 : decode cX0_init 82 = .ok (.return_, 1) := by decide +kernel
def ceX0_init_3 (G : zG) (ce : Nat → va_E) : Nat → va_E := (bup (bup (bup (bup (bup (bup (bup (bup (bup (bup (bup (bup (bup (bup (bup (bup (bup (bup (bup ce 3 (.inr (0, [.int 0, .int 0, .int 0, .int 0, .int 0, .int 0, .int 0, .null, .null, .null, .null, .null, .null, .null, .null, .null].set 2 (.int (6 : Int32))))) 4 (.inl (G.2.1 0, 6, (.inl (fun _ => 0))))) 3 (.inr (0, [.int 0, .int 0, .int (6 : Int32), .int 0, .int 0, .int 0, .int 0, .null, .null, .null, .null, .null, .null, .null, .null, .null].set 7 (zr G 4)))) 5 (.inl (G.2.1 0, 16, (.inl (fun _ => 0))))) 3 (.inr (0, [.int 0, .int 0, .int (6 : Int32), .int 0, .int 0, .int 0, .int 0, zr G 4, .null, .null, .null, .null, .null, .null, .null, .null].set 8 (zr G 5)))) 6 (.inl (G.2.1 0, 16, (.inl (fun _ => 0))))) 3 (.inr (0, [.int 0, .int 0, .int (6 : Int32), .int 0, .int 0, .int 0, .int 0, zr G 4, zr G 5, .null, .null, .null, .null, .null, .null, .null].set 9 (zr G 6)))) 7 (.inl (G.2.1 0, 12, (.inl (fun _ => 0))))) 3 (.inr (0, [.int 0, .int 0, .int (6 : Int32), .int 0, .int 0, .int 0, .int 0, zr G 4, zr G 5, zr G 6, .null, .null, .null, .null, .null, .null].set 10 (zr G 7)))) 8 (.inl (G.2.1 0, 12, (.inl (fun _ => 0))))) 3 (.inr (0, [.int 0, .int 0, .int (6 : Int32), .int 0, .int 0, .int 0, .int 0, zr G 4, zr G 5, zr G 6, zr G 7, .null, .null, .null, .null, .null].set 11 (zr G 8)))) 9 (.inl (G.2.1 0, 12, (.inl (fun _ => 0))))) 3 (.inr (0, [.int 0, .int 0, .int (6 : Int32), .int 0, .int 0, .int 0, .int 0, zr G 4, zr G 5, zr G 6, zr G 7, zr G 8, .null, .null, .null, .null].set 12 (zr G 9)))) 10 (.inl (G.2.1 0, 12, (.inl (fun _ => 0))))) 3 (.inr (0, [.int 0, .int 0, .int (6 : Int32), .int 0, .int 0, .int 0, .int 0, zr G 4, zr G 5, zr G 6, zr G 7, zr G 8, zr G 9, .null, .null, .null].set 13 (zr G 10)))) 11 (.inl (G.2.1 0, 12, (.inl (fun _ => 0))))) 3 (.inr (0, [.int 0, .int 0, .int (6 : Int32), .int 0, .int 0, .int 0, .int 0, zr G 4, zr G 5, zr G 6, zr G 7, zr G 8, zr G 9, zr G 10, .null, .null].set 14 (zr G 11)))) 12 (.inl (G.2.1 0, 12, (.inl (fun _ => 0))))) 3 (.inr (0, [.int 0, .int 0, .int (6 : Int32), .int 0, .int 0, .int 0, .int 0, zr G 4, zr G 5, zr G 6, zr G 7, zr G 8, zr G 9, zr G 10, zr G 11, .null].set 15 (zr G 12))))
set_option maxRecDepth 20000 in
set_option maxHeartbeats 2000000 in
theorem kBX0_init_3 (l : Launch) (G : zG) (ce : Nat → va_E) (hc3 : ce 3 = .inr (0, [.int 0, .int 0, .int 0, .int 0, .int 0, .int 0, .int 0, .null, .null, .null, .null, .null, .null, .null, .null, .null])) : zBM l yX0_init cX0_init 1 none 1 80 9 110 [zr G 3] G 4 ce 13 (ceX0_init_3 G ce) := by
  refine zBM_of (own := RX0) (by decide) rfl (Nat.le_of_ble_eq_true rfl) (fun x hl F hr hk hcs hini => ?_)
  subst hl
  refine b_ls [(0, zr G 3)] [0] rfl ?_
  refine b_aload_n F dX0_init_0 rfl 0 rfl ?_
  refine b_obj F zol_X0_3 zob_2 zob_3 (Nat.le_of_ble_eq_true rfl) (Nat.le_of_ble_eq_true rfl) (Nat.le_of_ble_eq_true rfl) dX0_init_1 ?_
  refine b_aload_n F dX0_init_4 rfl 0 rfl ?_
  refine b_bipush (y := (6 : Int32)) F dX0_init_5 rfl ?_
  refine b_put F (c := 0) (C := RX0) (T := TX0) (N := 16) (fs := [.int 0, .int 0, .int 0, .int 0, .int 0, .int 0, .int 0, .null, .null, .null, .null, .null, .null, .null, .null, .null]) (ty := tyX0 2) tyX0 tyX0_ok nmX0 rfl uw_0 2 (by decide) rfl (tyX0_ok 2 (by decide)) rfl rfl (Nat.le_of_ble_eq_true rfl) hc3 (Nat.le_of_ble_eq_true rfl) wF_X0_9 dX0_init_7 ?_
  refine b_aload_n F dX0_init_10 rfl 0 rfl ?_
  refine b_bipush (y := (6 : Int32)) F dX0_init_11 rfl ?_
  refine b_newa F (atype := .int) (ty := .int) (a0 := (6, (.inl (fun _ => 0)))) 0 rfl rfl (by intro C q; cases q) zac_int (fun _ => rfl) (by decide) (by decide) (Nat.le_of_ble_eq_true rfl) ⟨Nat.le_trans (Nat.le_of_ble_eq_true rfl) hcs.1, Nat.le_trans (Nat.le_of_ble_eq_true rfl) hcs.2⟩ dX0_init_13 ?_
  refine b_putF F hini (c := 0) (C := RX0) (T := TX0) (N := 16) (fs := [.int 0, .int 0, .int (6 : Int32), .int 0, .int 0, .int 0, .int 0, .null, .null, .null, .null, .null, .null, .null, .null, .null]) (ty := tyX0 7) tyX0 tyX0_ok nmX0 rfl uw_0 7 (by decide) rfl rfl (tyX0_ok 7 (by decide)) rfl rfl (Nat.le_of_ble_eq_true rfl) rfl (Nat.le_of_ble_eq_true rfl) wF_X0_15 dX0_init_15 ?_
  refine b_aload_n F dX0_init_18 rfl 0 rfl ?_
  refine b_bipush (y := (16 : Int32)) F dX0_init_19 rfl ?_
  refine b_newa F (atype := .int) (ty := .int) (a0 := (16, (.inl (fun _ => 0)))) 0 rfl rfl (by intro C q; cases q) zac_int (fun _ => rfl) (by decide) (by decide) (Nat.le_of_ble_eq_true rfl) ⟨Nat.le_trans (Nat.le_of_ble_eq_true rfl) hcs.1, Nat.le_trans (Nat.le_of_ble_eq_true rfl) hcs.2⟩ dX0_init_21 ?_
  refine b_putF F hini (c := 0) (C := RX0) (T := TX0) (N := 16) (fs := [.int 0, .int 0, .int (6 : Int32), .int 0, .int 0, .int 0, .int 0, zr G 4, .null, .null, .null, .null, .null, .null, .null, .null]) (ty := tyX0 8) tyX0 tyX0_ok nmX0 rfl uw_0 8 (by decide) rfl rfl (tyX0_ok 8 (by decide)) rfl rfl (Nat.le_of_ble_eq_true rfl) rfl (Nat.le_of_ble_eq_true rfl) wF_X0_19 dX0_init_23 ?_
  refine b_aload_n F dX0_init_26 rfl 0 rfl ?_
  refine b_bipush (y := (16 : Int32)) F dX0_init_27 rfl ?_
  refine b_newa F (atype := .int) (ty := .int) (a0 := (16, (.inl (fun _ => 0)))) 0 rfl rfl (by intro C q; cases q) zac_int (fun _ => rfl) (by decide) (by decide) (Nat.le_of_ble_eq_true rfl) ⟨Nat.le_trans (Nat.le_of_ble_eq_true rfl) hcs.1, Nat.le_trans (Nat.le_of_ble_eq_true rfl) hcs.2⟩ dX0_init_29 ?_
  refine b_putF F hini (c := 0) (C := RX0) (T := TX0) (N := 16) (fs := [.int 0, .int 0, .int (6 : Int32), .int 0, .int 0, .int 0, .int 0, zr G 4, zr G 5, .null, .null, .null, .null, .null, .null, .null]) (ty := tyX0 9) tyX0 tyX0_ok nmX0 rfl uw_0 9 (by decide) rfl rfl (tyX0_ok 9 (by decide)) rfl rfl (Nat.le_of_ble_eq_true rfl) rfl (Nat.le_of_ble_eq_true rfl) wF_X0_22 dX0_init_31 ?_
  refine b_aload_n F dX0_init_34 rfl 0 rfl ?_
  refine b_bipush (y := (12 : Int32)) F dX0_init_35 rfl ?_
  refine b_newa F (atype := .int) (ty := .int) (a0 := (12, (.inl (fun _ => 0)))) 0 rfl rfl (by intro C q; cases q) zac_int (fun _ => rfl) (by decide) (by decide) (Nat.le_of_ble_eq_true rfl) ⟨Nat.le_trans (Nat.le_of_ble_eq_true rfl) hcs.1, Nat.le_trans (Nat.le_of_ble_eq_true rfl) hcs.2⟩ dX0_init_37 ?_
  refine b_putF F hini (c := 0) (C := RX0) (T := TX0) (N := 16) (fs := [.int 0, .int 0, .int (6 : Int32), .int 0, .int 0, .int 0, .int 0, zr G 4, zr G 5, zr G 6, .null, .null, .null, .null, .null, .null]) (ty := tyX0 10) tyX0 tyX0_ok nmX0 rfl uw_0 10 (by decide) rfl rfl (tyX0_ok 10 (by decide)) rfl rfl (Nat.le_of_ble_eq_true rfl) rfl (Nat.le_of_ble_eq_true rfl) wF_X0_25 dX0_init_39 ?_
  refine b_aload_n F dX0_init_42 rfl 0 rfl ?_
  refine b_bipush (y := (12 : Int32)) F dX0_init_43 rfl ?_
  refine b_newa F (atype := .int) (ty := .int) (a0 := (12, (.inl (fun _ => 0)))) 0 rfl rfl (by intro C q; cases q) zac_int (fun _ => rfl) (by decide) (by decide) (Nat.le_of_ble_eq_true rfl) ⟨Nat.le_trans (Nat.le_of_ble_eq_true rfl) hcs.1, Nat.le_trans (Nat.le_of_ble_eq_true rfl) hcs.2⟩ dX0_init_45 ?_
  refine b_putF F hini (c := 0) (C := RX0) (T := TX0) (N := 16) (fs := [.int 0, .int 0, .int (6 : Int32), .int 0, .int 0, .int 0, .int 0, zr G 4, zr G 5, zr G 6, zr G 7, .null, .null, .null, .null, .null]) (ty := tyX0 11) tyX0 tyX0_ok nmX0 rfl uw_0 11 (by decide) rfl rfl (tyX0_ok 11 (by decide)) rfl rfl (Nat.le_of_ble_eq_true rfl) rfl (Nat.le_of_ble_eq_true rfl) wF_X0_28 dX0_init_47 ?_
  refine b_aload_n F dX0_init_50 rfl 0 rfl ?_
  refine b_bipush (y := (12 : Int32)) F dX0_init_51 rfl ?_
  refine b_newa F (atype := .int) (ty := .int) (a0 := (12, (.inl (fun _ => 0)))) 0 rfl rfl (by intro C q; cases q) zac_int (fun _ => rfl) (by decide) (by decide) (Nat.le_of_ble_eq_true rfl) ⟨Nat.le_trans (Nat.le_of_ble_eq_true rfl) hcs.1, Nat.le_trans (Nat.le_of_ble_eq_true rfl) hcs.2⟩ dX0_init_53 ?_
  refine b_putF F hini (c := 0) (C := RX0) (T := TX0) (N := 16) (fs := [.int 0, .int 0, .int (6 : Int32), .int 0, .int 0, .int 0, .int 0, zr G 4, zr G 5, zr G 6, zr G 7, zr G 8, .null, .null, .null, .null]) (ty := tyX0 12) tyX0 tyX0_ok nmX0 rfl uw_0 12 (by decide) rfl rfl (tyX0_ok 12 (by decide)) rfl rfl (Nat.le_of_ble_eq_true rfl) rfl (Nat.le_of_ble_eq_true rfl) wF_X0_31 dX0_init_55 ?_
  refine b_aload_n F dX0_init_58 rfl 0 rfl ?_
  refine b_bipush (y := (12 : Int32)) F dX0_init_59 rfl ?_
  refine b_newa F (atype := .int) (ty := .int) (a0 := (12, (.inl (fun _ => 0)))) 0 rfl rfl (by intro C q; cases q) zac_int (fun _ => rfl) (by decide) (by decide) (Nat.le_of_ble_eq_true rfl) ⟨Nat.le_trans (Nat.le_of_ble_eq_true rfl) hcs.1, Nat.le_trans (Nat.le_of_ble_eq_true rfl) hcs.2⟩ dX0_init_61 ?_
  refine b_putF F hini (c := 0) (C := RX0) (T := TX0) (N := 16) (fs := [.int 0, .int 0, .int (6 : Int32), .int 0, .int 0, .int 0, .int 0, zr G 4, zr G 5, zr G 6, zr G 7, zr G 8, zr G 9, .null, .null, .null]) (ty := tyX0 13) tyX0 tyX0_ok nmX0 rfl uw_0 13 (by decide) rfl rfl (tyX0_ok 13 (by decide)) rfl rfl (Nat.le_of_ble_eq_true rfl) rfl (Nat.le_of_ble_eq_true rfl) wF_X0_34 dX0_init_63 ?_
  refine b_aload_n F dX0_init_66 rfl 0 rfl ?_
  refine b_bipush (y := (12 : Int32)) F dX0_init_67 rfl ?_
  refine b_newa F (atype := .int) (ty := .int) (a0 := (12, (.inl (fun _ => 0)))) 0 rfl rfl (by intro C q; cases q) zac_int (fun _ => rfl) (by decide) (by decide) (Nat.le_of_ble_eq_true rfl) ⟨Nat.le_trans (Nat.le_of_ble_eq_true rfl) hcs.1, Nat.le_trans (Nat.le_of_ble_eq_true rfl) hcs.2⟩ dX0_init_69 ?_
  refine b_putF F hini (c := 0) (C := RX0) (T := TX0) (N := 16) (fs := [.int 0, .int 0, .int (6 : Int32), .int 0, .int 0, .int 0, .int 0, zr G 4, zr G 5, zr G 6, zr G 7, zr G 8, zr G 9, zr G 10, .null, .null]) (ty := tyX0 14) tyX0 tyX0_ok nmX0 rfl uw_0 14 (by decide) rfl rfl (tyX0_ok 14 (by decide)) rfl rfl (Nat.le_of_ble_eq_true rfl) rfl (Nat.le_of_ble_eq_true rfl) wF_X0_37 dX0_init_71 ?_
  refine b_aload_n F dX0_init_74 rfl 0 rfl ?_
  refine b_bipush (y := (12 : Int32)) F dX0_init_75 rfl ?_
  refine b_newa F (atype := .int) (ty := .int) (a0 := (12, (.inl (fun _ => 0)))) 0 rfl rfl (by intro C q; cases q) zac_int (fun _ => rfl) (by decide) (by decide) (Nat.le_of_ble_eq_true rfl) ⟨Nat.le_trans (Nat.le_of_ble_eq_true rfl) hcs.1, Nat.le_trans (Nat.le_of_ble_eq_true rfl) hcs.2⟩ dX0_init_77 ?_
  refine b_putF F hini (c := 0) (C := RX0) (T := TX0) (N := 16) (fs := [.int 0, .int 0, .int (6 : Int32), .int 0, .int 0, .int 0, .int 0, zr G 4, zr G 5, zr G 6, zr G 7, zr G 8, zr G 9, zr G 10, zr G 11, .null]) (ty := tyX0 15) tyX0 tyX0_ok nmX0 rfl uw_0 15 (by decide) rfl rfl (tyX0_ok 15 (by decide)) rfl rfl (Nat.le_of_ble_eq_true rfl) rfl (Nat.le_of_ble_eq_true rfl) wF_X0_40 dX0_init_79 ?_
  exact b_ret F hr hk (fun _ _ => rfl) dX0_init_82

def ceX0_init_13 (G : zG) (ce : Nat → va_E) : Nat → va_E := (bup (bup (bup (bup (bup (bup (bup (bup (bup (bup (bup (bup (bup (bup (bup (bup (bup (bup (bup ce 13 (.inr (0, [.int 0, .int 0, .int 0, .int 0, .int 0, .int 0, .int 0, .null, .null, .null, .null, .null, .null, .null, .null, .null].set 2 (.int (6 : Int32))))) 14 (.inl (G.2.1 0, 6, (.inl (fun _ => 0))))) 13 (.inr (0, [.int 0, .int 0, .int (6 : Int32), .int 0, .int 0, .int 0, .int 0, .null, .null, .null, .null, .null, .null, .null, .null, .null].set 7 (zr G 14)))) 15 (.inl (G.2.1 0, 16, (.inl (fun _ => 0))))) 13 (.inr (0, [.int 0, .int 0, .int (6 : Int32), .int 0, .int 0, .int 0, .int 0, zr G 14, .null, .null, .null, .null, .null, .null, .null, .null].set 8 (zr G 15)))) 16 (.inl (G.2.1 0, 16, (.inl (fun _ => 0))))) 13 (.inr (0, [.int 0, .int 0, .int (6 : Int32), .int 0, .int 0, .int 0, .int 0, zr G 14, zr G 15, .null, .null, .null, .null, .null, .null, .null].set 9 (zr G 16)))) 17 (.inl (G.2.1 0, 12, (.inl (fun _ => 0))))) 13 (.inr (0, [.int 0, .int 0, .int (6 : Int32), .int 0, .int 0, .int 0, .int 0, zr G 14, zr G 15, zr G 16, .null, .null, .null, .null, .null, .null].set 10 (zr G 17)))) 18 (.inl (G.2.1 0, 12, (.inl (fun _ => 0))))) 13 (.inr (0, [.int 0, .int 0, .int (6 : Int32), .int 0, .int 0, .int 0, .int 0, zr G 14, zr G 15, zr G 16, zr G 17, .null, .null, .null, .null, .null].set 11 (zr G 18)))) 19 (.inl (G.2.1 0, 12, (.inl (fun _ => 0))))) 13 (.inr (0, [.int 0, .int 0, .int (6 : Int32), .int 0, .int 0, .int 0, .int 0, zr G 14, zr G 15, zr G 16, zr G 17, zr G 18, .null, .null, .null, .null].set 12 (zr G 19)))) 20 (.inl (G.2.1 0, 12, (.inl (fun _ => 0))))) 13 (.inr (0, [.int 0, .int 0, .int (6 : Int32), .int 0, .int 0, .int 0, .int 0, zr G 14, zr G 15, zr G 16, zr G 17, zr G 18, zr G 19, .null, .null, .null].set 13 (zr G 20)))) 21 (.inl (G.2.1 0, 12, (.inl (fun _ => 0))))) 13 (.inr (0, [.int 0, .int 0, .int (6 : Int32), .int 0, .int 0, .int 0, .int 0, zr G 14, zr G 15, zr G 16, zr G 17, zr G 18, zr G 19, zr G 20, .null, .null].set 14 (zr G 21)))) 22 (.inl (G.2.1 0, 12, (.inl (fun _ => 0))))) 13 (.inr (0, [.int 0, .int 0, .int (6 : Int32), .int 0, .int 0, .int 0, .int 0, zr G 14, zr G 15, zr G 16, zr G 17, zr G 18, zr G 19, zr G 20, zr G 21, .null].set 15 (zr G 22))))
set_option maxRecDepth 20000 in
set_option maxHeartbeats 2000000 in
theorem kBX0_init_13 (l : Launch) (G : zG) (ce : Nat → va_E) (hc13 : ce 13 = .inr (0, [.int 0, .int 0, .int 0, .int 0, .int 0, .int 0, .int 0, .null, .null, .null, .null, .null, .null, .null, .null, .null])) : zBM l yX0_init cX0_init 1 none 1 80 9 110 [zr G 13] G 14 ce 23 (ceX0_init_13 G ce) := by
  refine zBM_of (own := RX0) (by decide) rfl (Nat.le_of_ble_eq_true rfl) (fun x hl F hr hk hcs hini => ?_)
  subst hl
  refine b_ls [(0, zr G 13)] [0] rfl ?_
  refine b_aload_n F dX0_init_0 rfl 0 rfl ?_
  refine b_obj F zol_X0_3 zob_2 zob_3 (Nat.le_of_ble_eq_true rfl) (Nat.le_of_ble_eq_true rfl) (Nat.le_of_ble_eq_true rfl) dX0_init_1 ?_
  refine b_aload_n F dX0_init_4 rfl 0 rfl ?_
  refine b_bipush (y := (6 : Int32)) F dX0_init_5 rfl ?_
  refine b_put F (c := 0) (C := RX0) (T := TX0) (N := 16) (fs := [.int 0, .int 0, .int 0, .int 0, .int 0, .int 0, .int 0, .null, .null, .null, .null, .null, .null, .null, .null, .null]) (ty := tyX0 2) tyX0 tyX0_ok nmX0 rfl uw_0 2 (by decide) rfl (tyX0_ok 2 (by decide)) rfl rfl (Nat.le_of_ble_eq_true rfl) hc13 (Nat.le_of_ble_eq_true rfl) wF_X0_9 dX0_init_7 ?_
  refine b_aload_n F dX0_init_10 rfl 0 rfl ?_
  refine b_bipush (y := (6 : Int32)) F dX0_init_11 rfl ?_
  refine b_newa F (atype := .int) (ty := .int) (a0 := (6, (.inl (fun _ => 0)))) 0 rfl rfl (by intro C q; cases q) zac_int (fun _ => rfl) (by decide) (by decide) (Nat.le_of_ble_eq_true rfl) ⟨Nat.le_trans (Nat.le_of_ble_eq_true rfl) hcs.1, Nat.le_trans (Nat.le_of_ble_eq_true rfl) hcs.2⟩ dX0_init_13 ?_
  refine b_putF F hini (c := 0) (C := RX0) (T := TX0) (N := 16) (fs := [.int 0, .int 0, .int (6 : Int32), .int 0, .int 0, .int 0, .int 0, .null, .null, .null, .null, .null, .null, .null, .null, .null]) (ty := tyX0 7) tyX0 tyX0_ok nmX0 rfl uw_0 7 (by decide) rfl rfl (tyX0_ok 7 (by decide)) rfl rfl (Nat.le_of_ble_eq_true rfl) rfl (Nat.le_of_ble_eq_true rfl) wF_X0_15 dX0_init_15 ?_
  refine b_aload_n F dX0_init_18 rfl 0 rfl ?_
  refine b_bipush (y := (16 : Int32)) F dX0_init_19 rfl ?_
  refine b_newa F (atype := .int) (ty := .int) (a0 := (16, (.inl (fun _ => 0)))) 0 rfl rfl (by intro C q; cases q) zac_int (fun _ => rfl) (by decide) (by decide) (Nat.le_of_ble_eq_true rfl) ⟨Nat.le_trans (Nat.le_of_ble_eq_true rfl) hcs.1, Nat.le_trans (Nat.le_of_ble_eq_true rfl) hcs.2⟩ dX0_init_21 ?_
  refine b_putF F hini (c := 0) (C := RX0) (T := TX0) (N := 16) (fs := [.int 0, .int 0, .int (6 : Int32), .int 0, .int 0, .int 0, .int 0, zr G 14, .null, .null, .null, .null, .null, .null, .null, .null]) (ty := tyX0 8) tyX0 tyX0_ok nmX0 rfl uw_0 8 (by decide) rfl rfl (tyX0_ok 8 (by decide)) rfl rfl (Nat.le_of_ble_eq_true rfl) rfl (Nat.le_of_ble_eq_true rfl) wF_X0_19 dX0_init_23 ?_
  refine b_aload_n F dX0_init_26 rfl 0 rfl ?_
  refine b_bipush (y := (16 : Int32)) F dX0_init_27 rfl ?_
  refine b_newa F (atype := .int) (ty := .int) (a0 := (16, (.inl (fun _ => 0)))) 0 rfl rfl (by intro C q; cases q) zac_int (fun _ => rfl) (by decide) (by decide) (Nat.le_of_ble_eq_true rfl) ⟨Nat.le_trans (Nat.le_of_ble_eq_true rfl) hcs.1, Nat.le_trans (Nat.le_of_ble_eq_true rfl) hcs.2⟩ dX0_init_29 ?_
  refine b_putF F hini (c := 0) (C := RX0) (T := TX0) (N := 16) (fs := [.int 0, .int 0, .int (6 : Int32), .int 0, .int 0, .int 0, .int 0, zr G 14, zr G 15, .null, .null, .null, .null, .null, .null, .null]) (ty := tyX0 9) tyX0 tyX0_ok nmX0 rfl uw_0 9 (by decide) rfl rfl (tyX0_ok 9 (by decide)) rfl rfl (Nat.le_of_ble_eq_true rfl) rfl (Nat.le_of_ble_eq_true rfl) wF_X0_22 dX0_init_31 ?_
  refine b_aload_n F dX0_init_34 rfl 0 rfl ?_
  refine b_bipush (y := (12 : Int32)) F dX0_init_35 rfl ?_
  refine b_newa F (atype := .int) (ty := .int) (a0 := (12, (.inl (fun _ => 0)))) 0 rfl rfl (by intro C q; cases q) zac_int (fun _ => rfl) (by decide) (by decide) (Nat.le_of_ble_eq_true rfl) ⟨Nat.le_trans (Nat.le_of_ble_eq_true rfl) hcs.1, Nat.le_trans (Nat.le_of_ble_eq_true rfl) hcs.2⟩ dX0_init_37 ?_
  refine b_putF F hini (c := 0) (C := RX0) (T := TX0) (N := 16) (fs := [.int 0, .int 0, .int (6 : Int32), .int 0, .int 0, .int 0, .int 0, zr G 14, zr G 15, zr G 16, .null, .null, .null, .null, .null, .null]) (ty := tyX0 10) tyX0 tyX0_ok nmX0 rfl uw_0 10 (by decide) rfl rfl (tyX0_ok 10 (by decide)) rfl rfl (Nat.le_of_ble_eq_true rfl) rfl (Nat.le_of_ble_eq_true rfl) wF_X0_25 dX0_init_39 ?_
  refine b_aload_n F dX0_init_42 rfl 0 rfl ?_
  refine b_bipush (y := (12 : Int32)) F dX0_init_43 rfl ?_
  refine b_newa F (atype := .int) (ty := .int) (a0 := (12, (.inl (fun _ => 0)))) 0 rfl rfl (by intro C q; cases q) zac_int (fun _ => rfl) (by decide) (by decide) (Nat.le_of_ble_eq_true rfl) ⟨Nat.le_trans (Nat.le_of_ble_eq_true rfl) hcs.1, Nat.le_trans (Nat.le_of_ble_eq_true rfl) hcs.2⟩ dX0_init_45 ?_
  refine b_putF F hini (c := 0) (C := RX0) (T := TX0) (N := 16) (fs := [.int 0, .int 0, .int (6 : Int32), .int 0, .int 0, .int 0, .int 0, zr G 14, zr G 15, zr G 16, zr G 17, .null, .null, .null, .null, .null]) (ty := tyX0 11) tyX0 tyX0_ok nmX0 rfl uw_0 11 (by decide) rfl rfl (tyX0_ok 11 (by decide)) rfl rfl (Nat.le_of_ble_eq_true rfl) rfl (Nat.le_of_ble_eq_true rfl) wF_X0_28 dX0_init_47 ?_
  refine b_aload_n F dX0_init_50 rfl 0 rfl ?_
  refine b_bipush (y := (12 : Int32)) F dX0_init_51 rfl ?_
  refine b_newa F (atype := .int) (ty := .int) (a0 := (12, (.inl (fun _ => 0)))) 0 rfl rfl (by intro C q; cases q) zac_int (fun _ => rfl) (by decide) (by decide) (Nat.le_of_ble_eq_true rfl) ⟨Nat.le_trans (Nat.le_of_ble_eq_true rfl) hcs.1, Nat.le_trans (Nat.le_of_ble_eq_true rfl) hcs.2⟩ dX0_init_53 ?_
  refine b_putF F hini (c := 0) (C := RX0) (T := TX0) (N := 16) (fs := [.int 0, .int 0, .int (6 : Int32), .int 0, .int 0, .int 0, .int 0, zr G 14, zr G 15, zr G 16, zr G 17, zr G 18, .null, .null, .null, .null]) (ty := tyX0 12) tyX0 tyX0_ok nmX0 rfl uw_0 12 (by decide) rfl rfl (tyX0_ok 12 (by decide)) rfl rfl (Nat.le_of_ble_eq_true rfl) rfl (Nat.le_of_ble_eq_true rfl) wF_X0_31 dX0_init_55 ?_
  refine b_aload_n F dX0_init_58 rfl 0 rfl ?_
  refine b_bipush (y := (12 : Int32)) F dX0_init_59 rfl ?_
  refine b_newa F (atype := .int) (ty := .int) (a0 := (12, (.inl (fun _ => 0)))) 0 rfl rfl (by intro C q; cases q) zac_int (fun _ => rfl) (by decide) (by decide) (Nat.le_of_ble_eq_true rfl) ⟨Nat.le_trans (Nat.le_of_ble_eq_true rfl) hcs.1, Nat.le_trans (Nat.le_of_ble_eq_true rfl) hcs.2⟩ dX0_init_61 ?_
  refine b_putF F hini (c := 0) (C := RX0) (T := TX0) (N := 16) (fs := [.int 0, .int 0, .int (6 : Int32), .int 0, .int 0, .int 0, .int 0, zr G 14, zr G 15, zr G 16, zr G 17, zr G 18, zr G 19, .null, .null, .null]) (ty := tyX0 13) tyX0 tyX0_ok nmX0 rfl uw_0 13 (by decide) rfl rfl (tyX0_ok 13 (by decide)) rfl rfl (Nat.le_of_ble_eq_true rfl) rfl (Nat.le_of_ble_eq_true rfl) wF_X0_34 dX0_init_63 ?_
  refine b_aload_n F dX0_init_66 rfl 0 rfl ?_
  refine b_bipush (y := (12 : Int32)) F dX0_init_67 rfl ?_
  refine b_newa F (atype := .int) (ty := .int) (a0 := (12, (.inl (fun _ => 0)))) 0 rfl rfl (by intro C q; cases q) zac_int (fun _ => rfl) (by decide) (by decide) (Nat.le_of_ble_eq_true rfl) ⟨Nat.le_trans (Nat.le_of_ble_eq_true rfl) hcs.1, Nat.le_trans (Nat.le_of_ble_eq_true rfl) hcs.2⟩ dX0_init_69 ?_
  refine b_putF F hini (c := 0) (C := RX0) (T := TX0) (N := 16) (fs := [.int 0, .int 0, .int (6 : Int32), .int 0, .int 0, .int 0, .int 0, zr G 14, zr G 15, zr G 16, zr G 17, zr G 18, zr G 19, zr G 20, .null, .null]) (ty := tyX0 14) tyX0 tyX0_ok nmX0 rfl uw_0 14 (by decide) rfl rfl (tyX0_ok 14 (by decide)) rfl rfl (Nat.le_of_ble_eq_true rfl) rfl (Nat.le_of_ble_eq_true rfl) wF_X0_37 dX0_init_71 ?_
  refine b_aload_n F dX0_init_74 rfl 0 rfl ?_
  refine b_bipush (y := (12 : Int32)) F dX0_init_75 rfl ?_
  refine b_newa F (atype := .int) (ty := .int) (a0 := (12, (.inl (fun _ => 0)))) 0 rfl rfl (by intro C q; cases q) zac_int (fun _ => rfl) (by decide) (by decide) (Nat.le_of_ble_eq_true rfl) ⟨Nat.le_trans (Nat.le_of_ble_eq_true rfl) hcs.1, Nat.le_trans (Nat.le_of_ble_eq_true rfl) hcs.2⟩ dX0_init_77 ?_
  refine b_putF F hini (c := 0) (C := RX0) (T := TX0) (N := 16) (fs := [.int 0, .int 0, .int (6 : Int32), .int 0, .int 0, .int 0, .int 0, zr G 14, zr G 15, zr G 16, zr G 17, zr G 18, zr G 19, zr G 20, zr G 21, .null]) (ty := tyX0 15) tyX0 tyX0_ok nmX0 rfl uw_0 15 (by decide) rfl rfl (tyX0_ok 15 (by decide)) rfl rfl (Nat.le_of_ble_eq_true rfl) rfl (Nat.le_of_ble_eq_true rfl) wF_X0_40 dX0_init_79 ?_
  exact b_ret F hr hk (fun _ _ => rfl) dX0_init_82

theorem zcl_X9_26 : Cond.classLink RX9 26 RX5 ∈ zTbl := zTbl_of (zin_1 (List.mem_of_getElem? (i := 138) (by decide +kernel))) rfl
theorem zin_RX5 : Cond.instantiable RX5 4 ∈ zTbl := zTbl_of (zin_1 (List.mem_of_getElem? (i := 139) (by decide +kernel))) rfl
theorem zol_X5_3 : Cond.methodLink RX5 3 objectInit ∈ zTbl := zTbl_of (zin_1 (List.mem_of_getElem? (i := 143) (by decide +kernel))) rfl
def ceX5_add_23_im7_s1 (G : zG) (ce : Nat → va_E) : Nat → va_E := (bup (bup ce 24 (.inl (G.2.1 0, 150, .inl (upd (fun _ => 0) (0 : Int32).toNatClampNeg (-7 : Int32))))) 23 (.inr (5, [zr G 24, zr G 25, zr G 26, .int (0 : Int32)].set 3 (.int (1 : Int32)))))
set_option maxRecDepth 20000 in
set_option maxHeartbeats 2000000 in
theorem kBX5_add_23_im7_s1 (l : Launch) (G : zG) (ce : Nat → va_E) (hc23 : ce 23 = .inr (5, [zr G 24, zr G 25, zr G 26, .int (0 : Int32)])) (hc24 : ce 24 = .inl (G.2.1 0, 150, (.inl (fun _ => 0)))) : zBM l yX5_add cX5_add 2 none 1 80 0 0 [zr G 23, .int (-7 : Int32)] G 27 ce 27 (ceX5_add_23_im7_s1 G ce) := by
  refine zBM_of (own := RX5) (by decide) rfl (Nat.le_of_ble_eq_true rfl) (fun x hl F hr hk hcs hini => ?_)
  subst hl
  refine b_ls [(0, zr G 23), (1, .int (-7 : Int32))] [0, 1] rfl ?_
  refine b_aload_n F dX5_add_0 rfl 0 rfl ?_
  refine b_getR F (c := 5) (C := RX5) (T := TX5) (N := 4) (fs := [zr G 24, zr G 25, zr G 26, .int (0 : Int32)]) rfl uw_5 3 (by decide) (Nat.le_of_ble_eq_true rfl) hc23 rfl wF_X5_24 dX5_add_1 ?_
  refine b_if_lt F 39 dX5_add_4 rfl (fun hc => absurd hc (by decide)) (fun _ => ?_)
  refine b_aload_n F dX5_add_7 rfl 0 rfl ?_
  refine b_getR F (c := 5) (C := RX5) (T := TX5) (N := 4) (fs := [zr G 24, zr G 25, zr G 26, .int (0 : Int32)]) rfl uw_5 3 (by decide) (Nat.le_of_ble_eq_true rfl) hc23 rfl wF_X5_24 dX5_add_8 ?_
  refine b_aload_n F dX5_add_11 rfl 0 rfl ?_
  refine b_getR F (c := 5) (C := RX5) (T := TX5) (N := 4) (fs := [zr G 24, zr G 25, zr G 26, .int (0 : Int32)]) rfl uw_5 0 (by decide) (Nat.le_of_ble_eq_true rfl) hc23 rfl wF_X5_9 dX5_add_12 ?_
  refine b_alen0 F (N' := 150) (f := (fun _ => 0)) (y := (150 : Int32)) (Nat.le_of_ble_eq_true rfl) hc24 rfl dX5_add_15 ?_
  refine b_icmp_ge F 39 dX5_add_16 rfl (fun hc => absurd hc (by decide)) (fun _ => ?_)
  refine b_aload_n F dX5_add_19 rfl 0 rfl ?_
  refine b_getR F (c := 5) (C := RX5) (T := TX5) (N := 4) (fs := [zr G 24, zr G 25, zr G 26, .int (0 : Int32)]) rfl uw_5 0 (by decide) (Nat.le_of_ble_eq_true rfl) hc23 rfl wF_X5_9 dX5_add_20 ?_
  refine b_aload_n F dX5_add_23 rfl 0 rfl ?_
  refine b_getR F (c := 5) (C := RX5) (T := TX5) (N := 4) (fs := [zr G 24, zr G 25, zr G 26, .int (0 : Int32)]) rfl uw_5 3 (by decide) (Nat.le_of_ble_eq_true rfl) hc23 rfl wF_X5_24 dX5_add_24 ?_
  refine b_iload_n F dX5_add_27 rfl 1 rfl ?_
  refine b_iast F (N' := 150) (f := (fun _ => 0)) (Nat.le_of_ble_eq_true rfl) hc24 (vp_in_nI (n := 0) (by decide) (by decide)) dX5_add_28 ?_
  refine b_aload_n F dX5_add_29 rfl 0 rfl ?_
  refine b_dup F dX5_add_30 rfl ?_
  refine b_getR F (c := 5) (C := RX5) (T := TX5) (N := 4) (fs := [zr G 24, zr G 25, zr G 26, .int (0 : Int32)]) rfl uw_5 3 (by decide) (Nat.le_of_ble_eq_true rfl) hc23 rfl wF_X5_24 dX5_add_31 ?_
  refine b_iconst (y := (1 : Int32)) F dX5_add_34 rfl ?_
  refine b_iadd F dX5_add_35 ?_
  refine b_id (st := .int (1 : Int32) :: [zr G 23]) ?_
  refine b_put F (c := 5) (C := RX5) (T := TX5) (N := 4) (fs := [zr G 24, zr G 25, zr G 26, .int (0 : Int32)]) (ty := tyX5 3) tyX5 tyX5_ok nmX5 rfl uw_5 3 (by decide) rfl (tyX5_ok 3 (by decide)) rfl rfl (Nat.le_of_ble_eq_true rfl) hc23 (Nat.le_of_ble_eq_true rfl) wF_X5_24 dX5_add_36 ?_
  exact b_ret F hr hk (fun _ _ => rfl) dX5_add_39

def ceX5_add_23_i10_s2 (G : zG) (ce : Nat → va_E) : Nat → va_E := (bup (bup ce 24 (.inl (G.2.1 0, 150, .inl (upd (upd (fun _ => 0) (0 : Int32).toNatClampNeg (-7 : Int32)) (1 : Int32).toNatClampNeg (10 : Int32))))) 23 (.inr (5, [zr G 24, zr G 25, zr G 26, .int (1 : Int32)].set 3 (.int (2 : Int32)))))
set_option maxRecDepth 20000 in
set_option maxHeartbeats 2000000 in
theorem kBX5_add_23_i10_s2 (l : Launch) (G : zG) (ce : Nat → va_E) (hc23 : ce 23 = .inr (5, [zr G 24, zr G 25, zr G 26, .int (1 : Int32)])) (hc24 : ce 24 = .inl (G.2.1 0, 150, (.inl (upd (fun _ => 0) (0 : Int32).toNatClampNeg (-7 : Int32))))) : zBM l yX5_add cX5_add 2 none 1 80 0 0 [zr G 23, .int (10 : Int32)] G 27 ce 27 (ceX5_add_23_i10_s2 G ce) := by
  refine zBM_of (own := RX5) (by decide) rfl (Nat.le_of_ble_eq_true rfl) (fun x hl F hr hk hcs hini => ?_)
  subst hl
  refine b_ls [(0, zr G 23), (1, .int (10 : Int32))] [0, 1] rfl ?_
  refine b_aload_n F dX5_add_0 rfl 0 rfl ?_
  refine b_getR F (c := 5) (C := RX5) (T := TX5) (N := 4) (fs := [zr G 24, zr G 25, zr G 26, .int (1 : Int32)]) rfl uw_5 3 (by decide) (Nat.le_of_ble_eq_true rfl) hc23 rfl wF_X5_24 dX5_add_1 ?_
  refine b_if_lt F 39 dX5_add_4 rfl (fun hc => absurd hc (by decide)) (fun _ => ?_)
  refine b_aload_n F dX5_add_7 rfl 0 rfl ?_
  refine b_getR F (c := 5) (C := RX5) (T := TX5) (N := 4) (fs := [zr G 24, zr G 25, zr G 26, .int (1 : Int32)]) rfl uw_5 3 (by decide) (Nat.le_of_ble_eq_true rfl) hc23 rfl wF_X5_24 dX5_add_8 ?_
  refine b_aload_n F dX5_add_11 rfl 0 rfl ?_
  refine b_getR F (c := 5) (C := RX5) (T := TX5) (N := 4) (fs := [zr G 24, zr G 25, zr G 26, .int (1 : Int32)]) rfl uw_5 0 (by decide) (Nat.le_of_ble_eq_true rfl) hc23 rfl wF_X5_9 dX5_add_12 ?_
  refine b_alen0 F (N' := 150) (f := (upd (fun _ => 0) (0 : Int32).toNatClampNeg (-7 : Int32))) (y := (150 : Int32)) (Nat.le_of_ble_eq_true rfl) hc24 rfl dX5_add_15 ?_
  refine b_icmp_ge F 39 dX5_add_16 rfl (fun hc => absurd hc (by decide)) (fun _ => ?_)
  refine b_aload_n F dX5_add_19 rfl 0 rfl ?_
  refine b_getR F (c := 5) (C := RX5) (T := TX5) (N := 4) (fs := [zr G 24, zr G 25, zr G 26, .int (1 : Int32)]) rfl uw_5 0 (by decide) (Nat.le_of_ble_eq_true rfl) hc23 rfl wF_X5_9 dX5_add_20 ?_
  refine b_aload_n F dX5_add_23 rfl 0 rfl ?_
  refine b_getR F (c := 5) (C := RX5) (T := TX5) (N := 4) (fs := [zr G 24, zr G 25, zr G 26, .int (1 : Int32)]) rfl uw_5 3 (by decide) (Nat.le_of_ble_eq_true rfl) hc23 rfl wF_X5_24 dX5_add_24 ?_
  refine b_iload_n F dX5_add_27 rfl 1 rfl ?_
  refine b_iast F (N' := 150) (f := (upd (fun _ => 0) (0 : Int32).toNatClampNeg (-7 : Int32))) (Nat.le_of_ble_eq_true rfl) hc24 (vp_in_nI (n := 1) (by decide) (by decide)) dX5_add_28 ?_
  refine b_aload_n F dX5_add_29 rfl 0 rfl ?_
  refine b_dup F dX5_add_30 rfl ?_
  refine b_getR F (c := 5) (C := RX5) (T := TX5) (N := 4) (fs := [zr G 24, zr G 25, zr G 26, .int (1 : Int32)]) rfl uw_5 3 (by decide) (Nat.le_of_ble_eq_true rfl) hc23 rfl wF_X5_24 dX5_add_31 ?_
  refine b_iconst (y := (1 : Int32)) F dX5_add_34 rfl ?_
  refine b_iadd F dX5_add_35 ?_
  refine b_id (st := .int (2 : Int32) :: [zr G 23]) ?_
  refine b_put F (c := 5) (C := RX5) (T := TX5) (N := 4) (fs := [zr G 24, zr G 25, zr G 26, .int (1 : Int32)]) (ty := tyX5 3) tyX5 tyX5_ok nmX5 rfl uw_5 3 (by decide) rfl (tyX5_ok 3 (by decide)) rfl rfl (Nat.le_of_ble_eq_true rfl) hc23 (Nat.le_of_ble_eq_true rfl) wF_X5_24 dX5_add_36 ?_
  exact b_ret F hr hk (fun _ _ => rfl) dX5_add_39

def ceX5_add_23_im3_s3 (G : zG) (ce : Nat → va_E) : Nat → va_E := (bup (bup ce 24 (.inl (G.2.1 0, 150, .inl (upd (upd (upd (fun _ => 0) (0 : Int32).toNatClampNeg (-7 : Int32)) (1 : Int32).toNatClampNeg (10 : Int32)) (2 : Int32).toNatClampNeg (-3 : Int32))))) 23 (.inr (5, [zr G 24, zr G 25, zr G 26, .int (2 : Int32)].set 3 (.int (3 : Int32)))))
set_option maxRecDepth 20000 in
set_option maxHeartbeats 2000000 in
theorem kBX5_add_23_im3_s3 (l : Launch) (G : zG) (ce : Nat → va_E) (hc23 : ce 23 = .inr (5, [zr G 24, zr G 25, zr G 26, .int (2 : Int32)])) (hc24 : ce 24 = .inl (G.2.1 0, 150, (.inl (upd (upd (fun _ => 0) (0 : Int32).toNatClampNeg (-7 : Int32)) (1 : Int32).toNatClampNeg (10 : Int32))))) : zBM l yX5_add cX5_add 2 none 1 80 0 0 [zr G 23, .int (-3 : Int32)] G 27 ce 27 (ceX5_add_23_im3_s3 G ce) := by
  refine zBM_of (own := RX5) (by decide) rfl (Nat.le_of_ble_eq_true rfl) (fun x hl F hr hk hcs hini => ?_)
  subst hl
  refine b_ls [(0, zr G 23), (1, .int (-3 : Int32))] [0, 1] rfl ?_
  refine b_aload_n F dX5_add_0 rfl 0 rfl ?_
  refine b_getR F (c := 5) (C := RX5) (T := TX5) (N := 4) (fs := [zr G 24, zr G 25, zr G 26, .int (2 : Int32)]) rfl uw_5 3 (by decide) (Nat.le_of_ble_eq_true rfl) hc23 rfl wF_X5_24 dX5_add_1 ?_
  refine b_if_lt F 39 dX5_add_4 rfl (fun hc => absurd hc (by decide)) (fun _ => ?_)
  refine b_aload_n F dX5_add_7 rfl 0 rfl ?_
  refine b_getR F (c := 5) (C := RX5) (T := TX5) (N := 4) (fs := [zr G 24, zr G 25, zr G 26, .int (2 : Int32)]) rfl uw_5 3 (by decide) (Nat.le_of_ble_eq_true rfl) hc23 rfl wF_X5_24 dX5_add_8 ?_
  refine b_aload_n F dX5_add_11 rfl 0 rfl ?_
  refine b_getR F (c := 5) (C := RX5) (T := TX5) (N := 4) (fs := [zr G 24, zr G 25, zr G 26, .int (2 : Int32)]) rfl uw_5 0 (by decide) (Nat.le_of_ble_eq_true rfl) hc23 rfl wF_X5_9 dX5_add_12 ?_
  refine b_alen0 F (N' := 150) (f := (upd (upd (fun _ => 0) (0 : Int32).toNatClampNeg (-7 : Int32)) (1 : Int32).toNatClampNeg (10 : Int32))) (y := (150 : Int32)) (Nat.le_of_ble_eq_true rfl) hc24 rfl dX5_add_15 ?_
  refine b_icmp_ge F 39 dX5_add_16 rfl (fun hc => absurd hc (by decide)) (fun _ => ?_)
  refine b_aload_n F dX5_add_19 rfl 0 rfl ?_
  refine b_getR F (c := 5) (C := RX5) (T := TX5) (N := 4) (fs := [zr G 24, zr G 25, zr G 26, .int (2 : Int32)]) rfl uw_5 0 (by decide) (Nat.le_of_ble_eq_true rfl) hc23 rfl wF_X5_9 dX5_add_20 ?_
  refine b_aload_n F dX5_add_23 rfl 0 rfl ?_
  refine b_getR F (c := 5) (C := RX5) (T := TX5) (N := 4) (fs := [zr G 24, zr G 25, zr G 26, .int (2 : Int32)]) rfl uw_5 3 (by decide) (Nat.le_of_ble_eq_true rfl) hc23 rfl wF_X5_24 dX5_add_24 ?_
  refine b_iload_n F dX5_add_27 rfl 1 rfl ?_
  refine b_iast F (N' := 150) (f := (upd (upd (fun _ => 0) (0 : Int32).toNatClampNeg (-7 : Int32)) (1 : Int32).toNatClampNeg (10 : Int32))) (Nat.le_of_ble_eq_true rfl) hc24 (vp_in_nI (n := 2) (by decide) (by decide)) dX5_add_28 ?_
  refine b_aload_n F dX5_add_29 rfl 0 rfl ?_
  refine b_dup F dX5_add_30 rfl ?_
  refine b_getR F (c := 5) (C := RX5) (T := TX5) (N := 4) (fs := [zr G 24, zr G 25, zr G 26, .int (2 : Int32)]) rfl uw_5 3 (by decide) (Nat.le_of_ble_eq_true rfl) hc23 rfl wF_X5_24 dX5_add_31 ?_
  refine b_iconst (y := (1 : Int32)) F dX5_add_34 rfl ?_
  refine b_iadd F dX5_add_35 ?_
  refine b_id (st := .int (3 : Int32) :: [zr G 23]) ?_
  refine b_put F (c := 5) (C := RX5) (T := TX5) (N := 4) (fs := [zr G 24, zr G 25, zr G 26, .int (2 : Int32)]) (ty := tyX5 3) tyX5 tyX5_ok nmX5 rfl uw_5 3 (by decide) rfl (tyX5_ok 3 (by decide)) rfl rfl (Nat.le_of_ble_eq_true rfl) hc23 (Nat.le_of_ble_eq_true rfl) wF_X5_24 dX5_add_36 ?_
  exact b_ret F hr hk (fun _ _ => rfl) dX5_add_39

def ceX5_add_23_im9_s4 (G : zG) (ce : Nat → va_E) : Nat → va_E := (bup (bup ce 24 (.inl (G.2.1 0, 150, .inl (upd (upd (upd (upd (fun _ => 0) (0 : Int32).toNatClampNeg (-7 : Int32)) (1 : Int32).toNatClampNeg (10 : Int32)) (2 : Int32).toNatClampNeg (-3 : Int32)) (3 : Int32).toNatClampNeg (-9 : Int32))))) 23 (.inr (5, [zr G 24, zr G 25, zr G 26, .int (3 : Int32)].set 3 (.int (4 : Int32)))))
set_option maxRecDepth 20000 in
set_option maxHeartbeats 2000000 in
theorem kBX5_add_23_im9_s4 (l : Launch) (G : zG) (ce : Nat → va_E) (hc23 : ce 23 = .inr (5, [zr G 24, zr G 25, zr G 26, .int (3 : Int32)])) (hc24 : ce 24 = .inl (G.2.1 0, 150, (.inl (upd (upd (upd (fun _ => 0) (0 : Int32).toNatClampNeg (-7 : Int32)) (1 : Int32).toNatClampNeg (10 : Int32)) (2 : Int32).toNatClampNeg (-3 : Int32))))) : zBM l yX5_add cX5_add 2 none 1 80 0 0 [zr G 23, .int (-9 : Int32)] G 27 ce 27 (ceX5_add_23_im9_s4 G ce) := by
  refine zBM_of (own := RX5) (by decide) rfl (Nat.le_of_ble_eq_true rfl) (fun x hl F hr hk hcs hini => ?_)
  subst hl
  refine b_ls [(0, zr G 23), (1, .int (-9 : Int32))] [0, 1] rfl ?_
  refine b_aload_n F dX5_add_0 rfl 0 rfl ?_
  refine b_getR F (c := 5) (C := RX5) (T := TX5) (N := 4) (fs := [zr G 24, zr G 25, zr G 26, .int (3 : Int32)]) rfl uw_5 3 (by decide) (Nat.le_of_ble_eq_true rfl) hc23 rfl wF_X5_24 dX5_add_1 ?_
  refine b_if_lt F 39 dX5_add_4 rfl (fun hc => absurd hc (by decide)) (fun _ => ?_)
  refine b_aload_n F dX5_add_7 rfl 0 rfl ?_
  refine b_getR F (c := 5) (C := RX5) (T := TX5) (N := 4) (fs := [zr G 24, zr G 25, zr G 26, .int (3 : Int32)]) rfl uw_5 3 (by decide) (Nat.le_of_ble_eq_true rfl) hc23 rfl wF_X5_24 dX5_add_8 ?_
  refine b_aload_n F dX5_add_11 rfl 0 rfl ?_
  refine b_getR F (c := 5) (C := RX5) (T := TX5) (N := 4) (fs := [zr G 24, zr G 25, zr G 26, .int (3 : Int32)]) rfl uw_5 0 (by decide) (Nat.le_of_ble_eq_true rfl) hc23 rfl wF_X5_9 dX5_add_12 ?_
  refine b_alen0 F (N' := 150) (f := (upd (upd (upd (fun _ => 0) (0 : Int32).toNatClampNeg (-7 : Int32)) (1 : Int32).toNatClampNeg (10 : Int32)) (2 : Int32).toNatClampNeg (-3 : Int32))) (y := (150 : Int32)) (Nat.le_of_ble_eq_true rfl) hc24 rfl dX5_add_15 ?_
  refine b_icmp_ge F 39 dX5_add_16 rfl (fun hc => absurd hc (by decide)) (fun _ => ?_)
  refine b_aload_n F dX5_add_19 rfl 0 rfl ?_
  refine b_getR F (c := 5) (C := RX5) (T := TX5) (N := 4) (fs := [zr G 24, zr G 25, zr G 26, .int (3 : Int32)]) rfl uw_5 0 (by decide) (Nat.le_of_ble_eq_true rfl) hc23 rfl wF_X5_9 dX5_add_20 ?_
  refine b_aload_n F dX5_add_23 rfl 0 rfl ?_
  refine b_getR F (c := 5) (C := RX5) (T := TX5) (N := 4) (fs := [zr G 24, zr G 25, zr G 26, .int (3 : Int32)]) rfl uw_5 3 (by decide) (Nat.le_of_ble_eq_true rfl) hc23 rfl wF_X5_24 dX5_add_24 ?_
  refine b_iload_n F dX5_add_27 rfl 1 rfl ?_
  refine b_iast F (N' := 150) (f := (upd (upd (upd (fun _ => 0) (0 : Int32).toNatClampNeg (-7 : Int32)) (1 : Int32).toNatClampNeg (10 : Int32)) (2 : Int32).toNatClampNeg (-3 : Int32))) (Nat.le_of_ble_eq_true rfl) hc24 (vp_in_nI (n := 3) (by decide) (by decide)) dX5_add_28 ?_
  refine b_aload_n F dX5_add_29 rfl 0 rfl ?_
  refine b_dup F dX5_add_30 rfl ?_
  refine b_getR F (c := 5) (C := RX5) (T := TX5) (N := 4) (fs := [zr G 24, zr G 25, zr G 26, .int (3 : Int32)]) rfl uw_5 3 (by decide) (Nat.le_of_ble_eq_true rfl) hc23 rfl wF_X5_24 dX5_add_31 ?_
  refine b_iconst (y := (1 : Int32)) F dX5_add_34 rfl ?_
  refine b_iadd F dX5_add_35 ?_
  refine b_id (st := .int (4 : Int32) :: [zr G 23]) ?_
  refine b_put F (c := 5) (C := RX5) (T := TX5) (N := 4) (fs := [zr G 24, zr G 25, zr G 26, .int (3 : Int32)]) (ty := tyX5 3) tyX5 tyX5_ok nmX5 rfl uw_5 3 (by decide) rfl (tyX5_ok 3 (by decide)) rfl rfl (Nat.le_of_ble_eq_true rfl) hc23 (Nat.le_of_ble_eq_true rfl) wF_X5_24 dX5_add_36 ?_
  exact b_ret F hr hk (fun _ _ => rfl) dX5_add_39

def ceX5_add_23_im1_s5 (G : zG) (ce : Nat → va_E) : Nat → va_E := (bup (bup ce 24 (.inl (G.2.1 0, 150, .inl (upd (upd (upd (upd (upd (fun _ => 0) (0 : Int32).toNatClampNeg (-7 : Int32)) (1 : Int32).toNatClampNeg (10 : Int32)) (2 : Int32).toNatClampNeg (-3 : Int32)) (3 : Int32).toNatClampNeg (-9 : Int32)) (4 : Int32).toNatClampNeg (-1 : Int32))))) 23 (.inr (5, [zr G 24, zr G 25, zr G 26, .int (4 : Int32)].set 3 (.int (5 : Int32)))))
set_option maxRecDepth 20000 in
set_option maxHeartbeats 2000000 in
theorem kBX5_add_23_im1_s5 (l : Launch) (G : zG) (ce : Nat → va_E) (hc23 : ce 23 = .inr (5, [zr G 24, zr G 25, zr G 26, .int (4 : Int32)])) (hc24 : ce 24 = .inl (G.2.1 0, 150, (.inl (upd (upd (upd (upd (fun _ => 0) (0 : Int32).toNatClampNeg (-7 : Int32)) (1 : Int32).toNatClampNeg (10 : Int32)) (2 : Int32).toNatClampNeg (-3 : Int32)) (3 : Int32).toNatClampNeg (-9 : Int32))))) : zBM l yX5_add cX5_add 2 none 1 80 0 0 [zr G 23, .int (-1 : Int32)] G 27 ce 27 (ceX5_add_23_im1_s5 G ce) := by
  refine zBM_of (own := RX5) (by decide) rfl (Nat.le_of_ble_eq_true rfl) (fun x hl F hr hk hcs hini => ?_)
  subst hl
  refine b_ls [(0, zr G 23), (1, .int (-1 : Int32))] [0, 1] rfl ?_
  refine b_aload_n F dX5_add_0 rfl 0 rfl ?_
  refine b_getR F (c := 5) (C := RX5) (T := TX5) (N := 4) (fs := [zr G 24, zr G 25, zr G 26, .int (4 : Int32)]) rfl uw_5 3 (by decide) (Nat.le_of_ble_eq_true rfl) hc23 rfl wF_X5_24 dX5_add_1 ?_
  refine b_if_lt F 39 dX5_add_4 rfl (fun hc => absurd hc (by decide)) (fun _ => ?_)
  refine b_aload_n F dX5_add_7 rfl 0 rfl ?_
  refine b_getR F (c := 5) (C := RX5) (T := TX5) (N := 4) (fs := [zr G 24, zr G 25, zr G 26, .int (4 : Int32)]) rfl uw_5 3 (by decide) (Nat.le_of_ble_eq_true rfl) hc23 rfl wF_X5_24 dX5_add_8 ?_
  refine b_aload_n F dX5_add_11 rfl 0 rfl ?_
  refine b_getR F (c := 5) (C := RX5) (T := TX5) (N := 4) (fs := [zr G 24, zr G 25, zr G 26, .int (4 : Int32)]) rfl uw_5 0 (by decide) (Nat.le_of_ble_eq_true rfl) hc23 rfl wF_X5_9 dX5_add_12 ?_
  refine b_alen0 F (N' := 150) (f := (upd (upd (upd (upd (fun _ => 0) (0 : Int32).toNatClampNeg (-7 : Int32)) (1 : Int32).toNatClampNeg (10 : Int32)) (2 : Int32).toNatClampNeg (-3 : Int32)) (3 : Int32).toNatClampNeg (-9 : Int32))) (y := (150 : Int32)) (Nat.le_of_ble_eq_true rfl) hc24 rfl dX5_add_15 ?_
  refine b_icmp_ge F 39 dX5_add_16 rfl (fun hc => absurd hc (by decide)) (fun _ => ?_)
  refine b_aload_n F dX5_add_19 rfl 0 rfl ?_
  refine b_getR F (c := 5) (C := RX5) (T := TX5) (N := 4) (fs := [zr G 24, zr G 25, zr G 26, .int (4 : Int32)]) rfl uw_5 0 (by decide) (Nat.le_of_ble_eq_true rfl) hc23 rfl wF_X5_9 dX5_add_20 ?_
  refine b_aload_n F dX5_add_23 rfl 0 rfl ?_
  refine b_getR F (c := 5) (C := RX5) (T := TX5) (N := 4) (fs := [zr G 24, zr G 25, zr G 26, .int (4 : Int32)]) rfl uw_5 3 (by decide) (Nat.le_of_ble_eq_true rfl) hc23 rfl wF_X5_24 dX5_add_24 ?_
  refine b_iload_n F dX5_add_27 rfl 1 rfl ?_
  refine b_iast F (N' := 150) (f := (upd (upd (upd (upd (fun _ => 0) (0 : Int32).toNatClampNeg (-7 : Int32)) (1 : Int32).toNatClampNeg (10 : Int32)) (2 : Int32).toNatClampNeg (-3 : Int32)) (3 : Int32).toNatClampNeg (-9 : Int32))) (Nat.le_of_ble_eq_true rfl) hc24 (vp_in_nI (n := 4) (by decide) (by decide)) dX5_add_28 ?_
  refine b_aload_n F dX5_add_29 rfl 0 rfl ?_
  refine b_dup F dX5_add_30 rfl ?_
  refine b_getR F (c := 5) (C := RX5) (T := TX5) (N := 4) (fs := [zr G 24, zr G 25, zr G 26, .int (4 : Int32)]) rfl uw_5 3 (by decide) (Nat.le_of_ble_eq_true rfl) hc23 rfl wF_X5_24 dX5_add_31 ?_
  refine b_iconst (y := (1 : Int32)) F dX5_add_34 rfl ?_
  refine b_iadd F dX5_add_35 ?_
  refine b_id (st := .int (5 : Int32) :: [zr G 23]) ?_
  refine b_put F (c := 5) (C := RX5) (T := TX5) (N := 4) (fs := [zr G 24, zr G 25, zr G 26, .int (4 : Int32)]) (ty := tyX5 3) tyX5 tyX5_ok nmX5 rfl uw_5 3 (by decide) rfl (tyX5_ok 3 (by decide)) rfl rfl (Nat.le_of_ble_eq_true rfl) hc23 (Nat.le_of_ble_eq_true rfl) wF_X5_24 dX5_add_36 ?_
  exact b_ret F hr hk (fun _ _ => rfl) dX5_add_39

def ceX5_beUsual_23_s0 (G : zG) (ce : Nat → va_E) : Nat → va_E := (ceX5_add_23_im1_s5 G (ceX5_add_23_im9_s4 G (ceX5_add_23_im3_s3 G (ceX5_add_23_i10_s2 G (ceX5_add_23_im7_s1 G (bup ce 23 (.inr (5, [zr G 24, zr G 25, zr G 26, .int 0].set 3 (.int (0 : Int32))))))))))
set_option maxRecDepth 20000 in
set_option maxHeartbeats 2000000 in
theorem kBX5_beUsual_23_s0 (l : Launch) (G : zG) (ce : Nat → va_E) (hc23 : ce 23 = .inr (5, [zr G 24, zr G 25, zr G 26, .int 0])) (hc24 : ce 24 = .inl (G.2.1 0, 150, (.inl (fun _ => 0)))) : zBM l yX5_beUsual cX5_beUsual 1 none 2 101 0 0 [zr G 23] G 27 ce 27 (ceX5_beUsual_23_s0 G ce) := by
  refine zBM_of (own := RX5) (by decide) rfl (Nat.le_of_ble_eq_true rfl) (fun x hl F hr hk hcs hini => ?_)
  subst hl
  refine b_ls [(0, zr G 23)] [0] rfl ?_
  refine b_aload_n F dX5_beUsual_0 rfl 0 rfl ?_
  refine b_iconst (y := (0 : Int32)) F dX5_beUsual_1 rfl ?_
  refine b_put F (c := 5) (C := RX5) (T := TX5) (N := 4) (fs := [zr G 24, zr G 25, zr G 26, .int 0]) (ty := tyX5 3) tyX5 tyX5_ok nmX5 rfl uw_5 3 (by decide) rfl (tyX5_ok 3 (by decide)) rfl rfl (Nat.le_of_ble_eq_true rfl) hc23 (Nat.le_of_ble_eq_true rfl) wF_X5_24 dX5_beUsual_2 ?_
  refine b_aload_n F dX5_beUsual_5 rfl 0 rfl ?_
  refine b_bipush (y := (-7 : Int32)) F dX5_beUsual_6 rfl ?_
  refine b_callV F [.int (-7 : Int32)] [] (kBX5_add_23_im7_s1 x.2.1 G _ rfl hc24) mI_X5_add (c := 5) (fs := [zr G 24, zr G 25, zr G 26, .int (0 : Int32)]) rfl (Nat.le_of_ble_eq_true rfl) rfl wM_X5_28 mi_X5_add sl_X5_add dX5_beUsual_8 rfl ⟨Nat.le_of_ble_eq_true rfl, Nat.le_of_ble_eq_true rfl⟩ rfl (Nat.le_of_ble_eq_true rfl) ⟨Nat.le_trans (Nat.le_of_ble_eq_true rfl) hcs.1, Nat.le_trans (Nat.le_of_ble_eq_true rfl) hcs.2⟩ ?_
  refine b_aload_n F dX5_beUsual_11 rfl 0 rfl ?_
  refine b_bipush (y := (10 : Int32)) F dX5_beUsual_12 rfl ?_
  refine b_callV F [.int (10 : Int32)] [] (kBX5_add_23_i10_s2 x.2.1 G _ rfl rfl) mI_X5_add (c := 5) (fs := [zr G 24, zr G 25, zr G 26, .int (1 : Int32)]) rfl (Nat.le_of_ble_eq_true rfl) rfl wM_X5_28 mi_X5_add sl_X5_add dX5_beUsual_14 rfl ⟨Nat.le_of_ble_eq_true rfl, Nat.le_of_ble_eq_true rfl⟩ rfl (Nat.le_of_ble_eq_true rfl) ⟨Nat.le_trans (Nat.le_of_ble_eq_true rfl) hcs.1, Nat.le_trans (Nat.le_of_ble_eq_true rfl) hcs.2⟩ ?_
  refine b_aload_n F dX5_beUsual_17 rfl 0 rfl ?_
  refine b_bipush (y := (-3 : Int32)) F dX5_beUsual_18 rfl ?_
  refine b_callV F [.int (-3 : Int32)] [] (kBX5_add_23_im3_s3 x.2.1 G _ rfl rfl) mI_X5_add (c := 5) (fs := [zr G 24, zr G 25, zr G 26, .int (2 : Int32)]) rfl (Nat.le_of_ble_eq_true rfl) rfl wM_X5_28 mi_X5_add sl_X5_add dX5_beUsual_20 rfl ⟨Nat.le_of_ble_eq_true rfl, Nat.le_of_ble_eq_true rfl⟩ rfl (Nat.le_of_ble_eq_true rfl) ⟨Nat.le_trans (Nat.le_of_ble_eq_true rfl) hcs.1, Nat.le_trans (Nat.le_of_ble_eq_true rfl) hcs.2⟩ ?_
  refine b_aload_n F dX5_beUsual_23 rfl 0 rfl ?_
  refine b_bipush (y := (-9 : Int32)) F dX5_beUsual_24 rfl ?_
  refine b_callV F [.int (-9 : Int32)] [] (kBX5_add_23_im9_s4 x.2.1 G _ rfl rfl) mI_X5_add (c := 5) (fs := [zr G 24, zr G 25, zr G 26, .int (3 : Int32)]) rfl (Nat.le_of_ble_eq_true rfl) rfl wM_X5_28 mi_X5_add sl_X5_add dX5_beUsual_26 rfl ⟨Nat.le_of_ble_eq_true rfl, Nat.le_of_ble_eq_true rfl⟩ rfl (Nat.le_of_ble_eq_true rfl) ⟨Nat.le_trans (Nat.le_of_ble_eq_true rfl) hcs.1, Nat.le_trans (Nat.le_of_ble_eq_true rfl) hcs.2⟩ ?_
  refine b_aload_n F dX5_beUsual_29 rfl 0 rfl ?_
  refine b_iconst (y := (-1 : Int32)) F dX5_beUsual_30 rfl ?_
  refine b_callV F [.int (-1 : Int32)] [] (kBX5_add_23_im1_s5 x.2.1 G _ rfl rfl) mI_X5_add (c := 5) (fs := [zr G 24, zr G 25, zr G 26, .int (4 : Int32)]) rfl (Nat.le_of_ble_eq_true rfl) rfl wM_X5_28 mi_X5_add sl_X5_add dX5_beUsual_31 rfl ⟨Nat.le_of_ble_eq_true rfl, Nat.le_of_ble_eq_true rfl⟩ rfl (Nat.le_of_ble_eq_true rfl) ⟨Nat.le_trans (Nat.le_of_ble_eq_true rfl) hcs.1, Nat.le_trans (Nat.le_of_ble_eq_true rfl) hcs.2⟩ ?_
  exact b_ret F hr hk (fun _ _ => rfl) dX5_beUsual_34

theorem dX5_init_0 : decode cX5_init 0 = .ok (.aload_n 0, 1) := by decide +kernel
theorem dX5_init_1 : decode cX5_init 1 = .ok (.invokespecial 3, 3) := by decide +kernel
theorem dX5_init_4 : decode cX5_init 4 = .ok (.aload_n 0, 1) := by decide +kernel
theorem dX5_init_5 : decode cX5_init 5 = .ok (.sipush 150, 3) := by decide +kernel
theorem dX5_init_8 : decode cX5_init 8 = .ok (.newarray .int, 2) := by decide +kernel
theorem dX5_init_10 : decode cX5_init 10 = .ok (.putfield 9, 3) := by decide +kernel
theorem dX5_init_13 : decode cX5_init 13 = .ok (.aload_n 0, 1) := by decide +kernel
theorem dX5_init_14 : decode cX5_init 14 = .ok (.sipush 150, 3) := by decide +kernel
theorem dX5_init_17 : decode cX5_init 17 = .ok (.newarray .int, 2) := by decide +kernel
theorem dX5_init_19 : decode cX5_init 19 = .ok (.putfield 15, 3) := by decide +kernel
theorem dX5_init_22 : decode cX5_init 22 = .ok (.aload_n 0, 1) := by decide +kernel
theorem dX5_init_23 : decode cX5_init 23 = .ok (.bipush 7, 2) := by decide +kernel
theorem dX5_init_25 : decode cX5_init 25 = .ok (.newarray .int, 2) := by decide +kernel
theorem dX5_init_27 : decode cX5_init 27 = .ok (.putfield 18, 3) := by decide +kernel
theorem dX5_init_30 : decode cX5_init 30 = .ok (.aload_n 0, 1) := by decide +kernel
theorem dX5_init_31 : decode cX5_init 31 = .ok (.invokevirtual 21, 3) := by decide +kernel
theorem dX5_init_34 : decode cX5_init 34 = .ok (.return_, 1) := by decide +kernel
def ceX5_init_23 (G : zG) (ce : Nat → va_E) : Nat → va_E := (ceX5_beUsual_23_s0 G (bup (bup (bup (bup (bup (bup ce 24 (.inl (G.2.1 0, 150, (.inl (fun _ => 0))))) 23 (.inr (5, [.null, .null, .null, .int 0].set 0 (zr G 24)))) 25 (.inl (G.2.1 0, 150, (.inl (fun _ => 0))))) 23 (.inr (5, [zr G 24, .null, .null, .int 0].set 1 (zr G 25)))) 26 (.inl (G.2.1 0, 7, (.inl (fun _ => 0))))) 23 (.inr (5, [zr G 24, zr G 25, .null, .int 0].set 2 (zr G 26)))))
set_option maxRecDepth 20000 in
set_option maxHeartbeats 2000000 in
theorem kBX5_init_23 (l : Launch) (G : zG) (ce : Nat → va_E) (hc23 : ce 23 = .inr (5, [.null, .null, .null, .int 0])) : zBM l yX5_init cX5_init 1 none 3 121 3 307 [zr G 23] G 24 ce 27 (ceX5_init_23 G ce) := by
  refine zBM_of (own := RX5) (by decide) rfl (Nat.le_of_ble_eq_true rfl) (fun x hl F hr hk hcs hini => ?_)
  subst hl
  refine b_ls [(0, zr G 23)] [0] rfl ?_
  refine b_aload_n F dX5_init_0 rfl 0 rfl ?_
  refine b_obj F zol_X5_3 zob_2 zob_3 (Nat.le_of_ble_eq_true rfl) (Nat.le_of_ble_eq_true rfl) (Nat.le_of_ble_eq_true rfl) dX5_init_1 ?_
  refine b_aload_n F dX5_init_4 rfl 0 rfl ?_
  refine b_sipush (y := (150 : Int32)) F dX5_init_5 rfl ?_
  refine b_newa F (atype := .int) (ty := .int) (a0 := (150, (.inl (fun _ => 0)))) 0 rfl rfl (by intro C q; cases q) zac_int (fun _ => rfl) (by decide) (by decide) (Nat.le_of_ble_eq_true rfl) ⟨Nat.le_trans (Nat.le_of_ble_eq_true rfl) hcs.1, Nat.le_trans (Nat.le_of_ble_eq_true rfl) hcs.2⟩ dX5_init_8 ?_
  refine b_putF F hini (c := 5) (C := RX5) (T := TX5) (N := 4) (fs := [.null, .null, .null, .int 0]) (ty := tyX5 0) tyX5 tyX5_ok nmX5 rfl uw_5 0 (by decide) rfl rfl (tyX5_ok 0 (by decide)) rfl rfl (Nat.le_of_ble_eq_true rfl) hc23 (Nat.le_of_ble_eq_true rfl) wF_X5_9 dX5_init_10 ?_
  refine b_aload_n F dX5_init_13 rfl 0 rfl ?_
  refine b_sipush (y := (150 : Int32)) F dX5_init_14 rfl ?_
  refine b_newa F (atype := .int) (ty := .int) (a0 := (150, (.inl (fun _ => 0)))) 0 rfl rfl (by intro C q; cases q) zac_int (fun _ => rfl) (by decide) (by decide) (Nat.le_of_ble_eq_true rfl) ⟨Nat.le_trans (Nat.le_of_ble_eq_true rfl) hcs.1, Nat.le_trans (Nat.le_of_ble_eq_true rfl) hcs.2⟩ dX5_init_17 ?_
  refine b_putF F hini (c := 5) (C := RX5) (T := TX5) (N := 4) (fs := [zr G 24, .null, .null, .int 0]) (ty := tyX5 1) tyX5 tyX5_ok nmX5 rfl uw_5 1 (by decide) rfl rfl (tyX5_ok 1 (by decide)) rfl rfl (Nat.le_of_ble_eq_true rfl) rfl (Nat.le_of_ble_eq_true rfl) wF_X5_15 dX5_init_19 ?_
  refine b_aload_n F dX5_init_22 rfl 0 rfl ?_
  refine b_bipush (y := (7 : Int32)) F dX5_init_23 rfl ?_
  refine b_newa F (atype := .int) (ty := .int) (a0 := (7, (.inl (fun _ => 0)))) 0 rfl rfl (by intro C q; cases q) zac_int (fun _ => rfl) (by decide) (by decide) (Nat.le_of_ble_eq_true rfl) ⟨Nat.le_trans (Nat.le_of_ble_eq_true rfl) hcs.1, Nat.le_trans (Nat.le_of_ble_eq_true rfl) hcs.2⟩ dX5_init_25 ?_
  refine b_putF F hini (c := 5) (C := RX5) (T := TX5) (N := 4) (fs := [zr G 24, zr G 25, .null, .int 0]) (ty := tyX5 2) tyX5 tyX5_ok nmX5 rfl uw_5 2 (by decide) rfl rfl (tyX5_ok 2 (by decide)) rfl rfl (Nat.le_of_ble_eq_true rfl) rfl (Nat.le_of_ble_eq_true rfl) wF_X5_18 dX5_init_27 ?_
  refine b_aload_n F dX5_init_30 rfl 0 rfl ?_
  refine b_callV F [] [] (kBX5_beUsual_23_s0 x.2.1 G _ rfl rfl) mI_X5_beUsual (c := 5) (fs := [zr G 24, zr G 25, zr G 26, .int 0]) rfl (Nat.le_of_ble_eq_true rfl) rfl wM_X5_21 mi_X5_beUsual sl_X5_beUsual dX5_init_31 rfl ⟨Nat.le_of_ble_eq_true rfl, Nat.le_of_ble_eq_true rfl⟩ rfl (Nat.le_of_ble_eq_true rfl) ⟨Nat.le_trans (Nat.le_of_ble_eq_true rfl) hcs.1, Nat.le_trans (Nat.le_of_ble_eq_true rfl) hcs.2⟩ ?_
  exact b_ret F hr hk (fun _ _ => rfl) dX5_init_34

def ceX5_add_27_im7_s7 (G : zG) (ce : Nat → va_E) : Nat → va_E := (bup (bup ce 28 (.inl (G.2.1 0, 150, .inl (upd (fun _ => 0) (0 : Int32).toNatClampNeg (-7 : Int32))))) 27 (.inr (5, [zr G 28, zr G 29, zr G 30, .int (0 : Int32)].set 3 (.int (1 : Int32)))))
set_option maxRecDepth 20000 in
set_option maxHeartbeats 2000000 in
theorem kBX5_add_27_im7_s7 (l : Launch) (G : zG) (ce : Nat → va_E) (hc27 : ce 27 = .inr (5, [zr G 28, zr G 29, zr G 30, .int (0 : Int32)])) (hc28 : ce 28 = .inl (G.2.1 0, 150, (.inl (fun _ => 0)))) : zBM l yX5_add cX5_add 2 none 1 80 0 0 [zr G 27, .int (-7 : Int32)] G 31 ce 31 (ceX5_add_27_im7_s7 G ce) := by
  refine zBM_of (own := RX5) (by decide) rfl (Nat.le_of_ble_eq_true rfl) (fun x hl F hr hk hcs hini => ?_)
  subst hl
  refine b_ls [(0, zr G 27), (1, .int (-7 : Int32))] [0, 1] rfl ?_
  refine b_aload_n F dX5_add_0 rfl 0 rfl ?_
  refine b_getR F (c := 5) (C := RX5) (T := TX5) (N := 4) (fs := [zr G 28, zr G 29, zr G 30, .int (0 : Int32)]) rfl uw_5 3 (by decide) (Nat.le_of_ble_eq_true rfl) hc27 rfl wF_X5_24 dX5_add_1 ?_
  refine b_if_lt F 39 dX5_add_4 rfl (fun hc => absurd hc (by decide)) (fun _ => ?_)
  refine b_aload_n F dX5_add_7 rfl 0 rfl ?_
  refine b_getR F (c := 5) (C := RX5) (T := TX5) (N := 4) (fs := [zr G 28, zr G 29, zr G 30, .int (0 : Int32)]) rfl uw_5 3 (by decide) (Nat.le_of_ble_eq_true rfl) hc27 rfl wF_X5_24 dX5_add_8 ?_
  refine b_aload_n F dX5_add_11 rfl 0 rfl ?_
  refine b_getR F (c := 5) (C := RX5) (T := TX5) (N := 4) (fs := [zr G 28, zr G 29, zr G 30, .int (0 : Int32)]) rfl uw_5 0 (by decide) (Nat.le_of_ble_eq_true rfl) hc27 rfl wF_X5_9 dX5_add_12 ?_
  refine b_alen0 F (N' := 150) (f := (fun _ => 0)) (y := (150 : Int32)) (Nat.le_of_ble_eq_true rfl) hc28 rfl dX5_add_15 ?_
  refine b_icmp_ge F 39 dX5_add_16 rfl (fun hc => absurd hc (by decide)) (fun _ => ?_)
  refine b_aload_n F dX5_add_19 rfl 0 rfl ?_
  refine b_getR F (c := 5) (C := RX5) (T := TX5) (N := 4) (fs := [zr G 28, zr G 29, zr G 30, .int (0 : Int32)]) rfl uw_5 0 (by decide) (Nat.le_of_ble_eq_true rfl) hc27 rfl wF_X5_9 dX5_add_20 ?_
  refine b_aload_n F dX5_add_23 rfl 0 rfl ?_
  refine b_getR F (c := 5) (C := RX5) (T := TX5) (N := 4) (fs := [zr G 28, zr G 29, zr G 30, .int (0 : Int32)]) rfl uw_5 3 (by decide) (Nat.le_of_ble_eq_true rfl) hc27 rfl wF_X5_24 dX5_add_24 ?_
  refine b_iload_n F dX5_add_27 rfl 1 rfl ?_
  refine b_iast F (N' := 150) (f := (fun _ => 0)) (Nat.le_of_ble_eq_true rfl) hc28 (vp_in_nI (n := 0) (by decide) (by decide)) dX5_add_28 ?_
  refine b_aload_n F dX5_add_29 rfl 0 rfl ?_
  refine b_dup F dX5_add_30 rfl ?_
  refine b_getR F (c := 5) (C := RX5) (T := TX5) (N := 4) (fs := [zr G 28, zr G 29, zr G 30, .int (0 : Int32)]) rfl uw_5 3 (by decide) (Nat.le_of_ble_eq_true rfl) hc27 rfl wF_X5_24 dX5_add_31 ?_
  refine b_iconst (y := (1 : Int32)) F dX5_add_34 rfl ?_
  refine b_iadd F dX5_add_35 ?_
  refine b_id (st := .int (1 : Int32) :: [zr G 27]) ?_
  refine b_put F (c := 5) (C := RX5) (T := TX5) (N := 4) (fs := [zr G 28, zr G 29, zr G 30, .int (0 : Int32)]) (ty := tyX5 3) tyX5 tyX5_ok nmX5 rfl uw_5 3 (by decide) rfl (tyX5_ok 3 (by decide)) rfl rfl (Nat.le_of_ble_eq_true rfl) hc27 (Nat.le_of_ble_eq_true rfl) wF_X5_24 dX5_add_36 ?_
  exact b_ret F hr hk (fun _ _ => rfl) dX5_add_39

def ceX5_add_27_i10_s8 (G : zG) (ce : Nat → va_E) : Nat → va_E := (bup (bup ce 28 (.inl (G.2.1 0, 150, .inl (upd (upd (fun _ => 0) (0 : Int32).toNatClampNeg (-7 : Int32)) (1 : Int32).toNatClampNeg (10 : Int32))))) 27 (.inr (5, [zr G 28, zr G 29, zr G 30, .int (1 : Int32)].set 3 (.int (2 : Int32)))))
set_option maxRecDepth 20000 in
set_option maxHeartbeats 2000000 in
theorem kBX5_add_27_i10_s8 (l : Launch) (G : zG) (ce : Nat → va_E) (hc27 : ce 27 = .inr (5, [zr G 28, zr G 29, zr G 30, .int (1 : Int32)])) (hc28 : ce 28 = .inl (G.2.1 0, 150, (.inl (upd (fun _ => 0) (0 : Int32).toNatClampNeg (-7 : Int32))))) : zBM l yX5_add cX5_add 2 none 1 80 0 0 [zr G 27, .int (10 : Int32)] G 31 ce 31 (ceX5_add_27_i10_s8 G ce) := by
  refine zBM_of (own := RX5) (by decide) rfl (Nat.le_of_ble_eq_true rfl) (fun x hl F hr hk hcs hini => ?_)
  subst hl
  refine b_ls [(0, zr G 27), (1, .int (10 : Int32))] [0, 1] rfl ?_
  refine b_aload_n F dX5_add_0 rfl 0 rfl ?_
  refine b_getR F (c := 5) (C := RX5) (T := TX5) (N := 4) (fs := [zr G 28, zr G 29, zr G 30, .int (1 : Int32)]) rfl uw_5 3 (by decide) (Nat.le_of_ble_eq_true rfl) hc27 rfl wF_X5_24 dX5_add_1 ?_
  refine b_if_lt F 39 dX5_add_4 rfl (fun hc => absurd hc (by decide)) (fun _ => ?_)
  refine b_aload_n F dX5_add_7 rfl 0 rfl ?_
  refine b_getR F (c := 5) (C := RX5) (T := TX5) (N := 4) (fs := [zr G 28, zr G 29, zr G 30, .int (1 : Int32)]) rfl uw_5 3 (by decide) (Nat.le_of_ble_eq_true rfl) hc27 rfl wF_X5_24 dX5_add_8 ?_
  refine b_aload_n F dX5_add_11 rfl 0 rfl ?_
  refine b_getR F (c := 5) (C := RX5) (T := TX5) (N := 4) (fs := [zr G 28, zr G 29, zr G 30, .int (1 : Int32)]) rfl uw_5 0 (by decide) (Nat.le_of_ble_eq_true rfl) hc27 rfl wF_X5_9 dX5_add_12 ?_
  refine b_alen0 F (N' := 150) (f := (upd (fun _ => 0) (0 : Int32).toNatClampNeg (-7 : Int32))) (y := (150 : Int32)) (Nat.le_of_ble_eq_true rfl) hc28 rfl dX5_add_15 ?_
  refine b_icmp_ge F 39 dX5_add_16 rfl (fun hc => absurd hc (by decide)) (fun _ => ?_)
  refine b_aload_n F dX5_add_19 rfl 0 rfl ?_
  refine b_getR F (c := 5) (C := RX5) (T := TX5) (N := 4) (fs := [zr G 28, zr G 29, zr G 30, .int (1 : Int32)]) rfl uw_5 0 (by decide) (Nat.le_of_ble_eq_true rfl) hc27 rfl wF_X5_9 dX5_add_20 ?_
  refine b_aload_n F dX5_add_23 rfl 0 rfl ?_
  refine b_getR F (c := 5) (C := RX5) (T := TX5) (N := 4) (fs := [zr G 28, zr G 29, zr G 30, .int (1 : Int32)]) rfl uw_5 3 (by decide) (Nat.le_of_ble_eq_true rfl) hc27 rfl wF_X5_24 dX5_add_24 ?_
  refine b_iload_n F dX5_add_27 rfl 1 rfl ?_
  refine b_iast F (N' := 150) (f := (upd (fun _ => 0) (0 : Int32).toNatClampNeg (-7 : Int32))) (Nat.le_of_ble_eq_true rfl) hc28 (vp_in_nI (n := 1) (by decide) (by decide)) dX5_add_28 ?_
  refine b_aload_n F dX5_add_29 rfl 0 rfl ?_
  refine b_dup F dX5_add_30 rfl ?_
  refine b_getR F (c := 5) (C := RX5) (T := TX5) (N := 4) (fs := [zr G 28, zr G 29, zr G 30, .int (1 : Int32)]) rfl uw_5 3 (by decide) (Nat.le_of_ble_eq_true rfl) hc27 rfl wF_X5_24 dX5_add_31 ?_
  refine b_iconst (y := (1 : Int32)) F dX5_add_34 rfl ?_
  refine b_iadd F dX5_add_35 ?_
  refine b_id (st := .int (2 : Int32) :: [zr G 27]) ?_
  refine b_put F (c := 5) (C := RX5) (T := TX5) (N := 4) (fs := [zr G 28, zr G 29, zr G 30, .int (1 : Int32)]) (ty := tyX5 3) tyX5 tyX5_ok nmX5 rfl uw_5 3 (by decide) rfl (tyX5_ok 3 (by decide)) rfl rfl (Nat.le_of_ble_eq_true rfl) hc27 (Nat.le_of_ble_eq_true rfl) wF_X5_24 dX5_add_36 ?_
  exact b_ret F hr hk (fun _ _ => rfl) dX5_add_39

def ceX5_add_27_im3_s9 (G : zG) (ce : Nat → va_E) : Nat → va_E := (bup (bup ce 28 (.inl (G.2.1 0, 150, .inl (upd (upd (upd (fun _ => 0) (0 : Int32).toNatClampNeg (-7 : Int32)) (1 : Int32).toNatClampNeg (10 : Int32)) (2 : Int32).toNatClampNeg (-3 : Int32))))) 27 (.inr (5, [zr G 28, zr G 29, zr G 30, .int (2 : Int32)].set 3 (.int (3 : Int32)))))
set_option maxRecDepth 20000 in
set_option maxHeartbeats 2000000 in
theorem kBX5_add_27_im3_s9 (l : Launch) (G : zG) (ce : Nat → va_E) (hc27 : ce 27 = .inr (5, [zr G 28, zr G 29, zr G 30, .int (2 : Int32)])) (hc28 : ce 28 = .inl (G.2.1 0, 150, (.inl (upd (upd (fun _ => 0) (0 : Int32).toNatClampNeg (-7 : Int32)) (1 : Int32).toNatClampNeg (10 : Int32))))) : zBM l yX5_add cX5_add 2 none 1 80 0 0 [zr G 27, .int (-3 : Int32)] G 31 ce 31 (ceX5_add_27_im3_s9 G ce) := by
  refine zBM_of (own := RX5) (by decide) rfl (Nat.le_of_ble_eq_true rfl) (fun x hl F hr hk hcs hini => ?_)
  subst hl
  refine b_ls [(0, zr G 27), (1, .int (-3 : Int32))] [0, 1] rfl ?_
  refine b_aload_n F dX5_add_0 rfl 0 rfl ?_
  refine b_getR F (c := 5) (C := RX5) (T := TX5) (N := 4) (fs := [zr G 28, zr G 29, zr G 30, .int (2 : Int32)]) rfl uw_5 3 (by decide) (Nat.le_of_ble_eq_true rfl) hc27 rfl wF_X5_24 dX5_add_1 ?_
  refine b_if_lt F 39 dX5_add_4 rfl (fun hc => absurd hc (by decide)) (fun _ => ?_)
  refine b_aload_n F dX5_add_7 rfl 0 rfl ?_
  refine b_getR F (c := 5) (C := RX5) (T := TX5) (N := 4) (fs := [zr G 28, zr G 29, zr G 30, .int (2 : Int32)]) rfl uw_5 3 (by decide) (Nat.le_of_ble_eq_true rfl) hc27 rfl wF_X5_24 dX5_add_8 ?_
  refine b_aload_n F dX5_add_11 rfl 0 rfl ?_
  refine b_getR F (c := 5) (C := RX5) (T := TX5) (N := 4) (fs := [zr G 28, zr G 29, zr G 30, .int (2 : Int32)]) rfl uw_5 0 (by decide) (Nat.le_of_ble_eq_true rfl) hc27 rfl wF_X5_9 dX5_add_12 ?_
  refine b_alen0 F (N' := 150) (f := (upd (upd (fun _ => 0) (0 : Int32).toNatClampNeg (-7 : Int32)) (1 : Int32).toNatClampNeg (10 : Int32))) (y := (150 : Int32)) (Nat.le_of_ble_eq_true rfl) hc28 rfl dX5_add_15 ?_
  refine b_icmp_ge F 39 dX5_add_16 rfl (fun hc => absurd hc (by decide)) (fun _ => ?_)
  refine b_aload_n F dX5_add_19 rfl 0 rfl ?_
  refine b_getR F (c := 5) (C := RX5) (T := TX5) (N := 4) (fs := [zr G 28, zr G 29, zr G 30, .int (2 : Int32)]) rfl uw_5 0 (by decide) (Nat.le_of_ble_eq_true rfl) hc27 rfl wF_X5_9 dX5_add_20 ?_
  refine b_aload_n F dX5_add_23 rfl 0 rfl ?_
  refine b_getR F (c := 5) (C := RX5) (T := TX5) (N := 4) (fs := [zr G 28, zr G 29, zr G 30, .int (2 : Int32)]) rfl uw_5 3 (by decide) (Nat.le_of_ble_eq_true rfl) hc27 rfl wF_X5_24 dX5_add_24 ?_
  refine b_iload_n F dX5_add_27 rfl 1 rfl ?_
  refine b_iast F (N' := 150) (f := (upd (upd (fun _ => 0) (0 : Int32).toNatClampNeg (-7 : Int32)) (1 : Int32).toNatClampNeg (10 : Int32))) (Nat.le_of_ble_eq_true rfl) hc28 (vp_in_nI (n := 2) (by decide) (by decide)) dX5_add_28 ?_
  refine b_aload_n F dX5_add_29 rfl 0 rfl ?_
  refine b_dup F dX5_add_30 rfl ?_
  refine b_getR F (c := 5) (C := RX5) (T := TX5) (N := 4) (fs := [zr G 28, zr G 29, zr G 30, .int (2 : Int32)]) rfl uw_5 3 (by decide) (Nat.le_of_ble_eq_true rfl) hc27 rfl wF_X5_24 dX5_add_31 ?_
  refine b_iconst (y := (1 : Int32)) F dX5_add_34 rfl ?_
  refine b_iadd F dX5_add_35 ?_
  refine b_id (st := .int (3 : Int32) :: [zr G 27]) ?_
  refine b_put F (c := 5) (C := RX5) (T := TX5) (N := 4) (fs := [zr G 28, zr G 29, zr G 30, .int (2 : Int32)]) (ty := tyX5 3) tyX5 tyX5_ok nmX5 rfl uw_5 3 (by decide) rfl (tyX5_ok 3 (by decide)) rfl rfl (Nat.le_of_ble_eq_true rfl) hc27 (Nat.le_of_ble_eq_true rfl) wF_X5_24 dX5_add_36 ?_
  exact b_ret F hr hk (fun _ _ => rfl) dX5_add_39

def ceX5_add_27_im9_s10 (G : zG) (ce : Nat → va_E) : Nat → va_E := (bup (bup ce 28 (.inl (G.2.1 0, 150, .inl (upd (upd (upd (upd (fun _ => 0) (0 : Int32).toNatClampNeg (-7 : Int32)) (1 : Int32).toNatClampNeg (10 : Int32)) (2 : Int32).toNatClampNeg (-3 : Int32)) (3 : Int32).toNatClampNeg (-9 : Int32))))) 27 (.inr (5, [zr G 28, zr G 29, zr G 30, .int (3 : Int32)].set 3 (.int (4 : Int32)))))
set_option maxRecDepth 20000 in
set_option maxHeartbeats 2000000 in
theorem kBX5_add_27_im9_s10 (l : Launch) (G : zG) (ce : Nat → va_E) (hc27 : ce 27 = .inr (5, [zr G 28, zr G 29, zr G 30, .int (3 : Int32)])) (hc28 : ce 28 = .inl (G.2.1 0, 150, (.inl (upd (upd (upd (fun _ => 0) (0 : Int32).toNatClampNeg (-7 : Int32)) (1 : Int32).toNatClampNeg (10 : Int32)) (2 : Int32).toNatClampNeg (-3 : Int32))))) : zBM l yX5_add cX5_add 2 none 1 80 0 0 [zr G 27, .int (-9 : Int32)] G 31 ce 31 (ceX5_add_27_im9_s10 G ce) := by
  refine zBM_of (own := RX5) (by decide) rfl (Nat.le_of_ble_eq_true rfl) (fun x hl F hr hk hcs hini => ?_)
  subst hl
  refine b_ls [(0, zr G 27), (1, .int (-9 : Int32))] [0, 1] rfl ?_
  refine b_aload_n F dX5_add_0 rfl 0 rfl ?_
  refine b_getR F (c := 5) (C := RX5) (T := TX5) (N := 4) (fs := [zr G 28, zr G 29, zr G 30, .int (3 : Int32)]) rfl uw_5 3 (by decide) (Nat.le_of_ble_eq_true rfl) hc27 rfl wF_X5_24 dX5_add_1 ?_
  refine b_if_lt F 39 dX5_add_4 rfl (fun hc => absurd hc (by decide)) (fun _ => ?_)
  refine b_aload_n F dX5_add_7 rfl 0 rfl ?_
  refine b_getR F (c := 5) (C := RX5) (T := TX5) (N := 4) (fs := [zr G 28, zr G 29, zr G 30, .int (3 : Int32)]) rfl uw_5 3 (by decide) (Nat.le_of_ble_eq_true rfl) hc27 rfl wF_X5_24 dX5_add_8 ?_
  refine b_aload_n F dX5_add_11 rfl 0 rfl ?_
  refine b_getR F (c := 5) (C := RX5) (T := TX5) (N := 4) (fs := [zr G 28, zr G 29, zr G 30, .int (3 : Int32)]) rfl uw_5 0 (by decide) (Nat.le_of_ble_eq_true rfl) hc27 rfl wF_X5_9 dX5_add_12 ?_
  refine b_alen0 F (N' := 150) (f := (upd (upd (upd (fun _ => 0) (0 : Int32).toNatClampNeg (-7 : Int32)) (1 : Int32).toNatClampNeg (10 : Int32)) (2 : Int32).toNatClampNeg (-3 : Int32))) (y := (150 : Int32)) (Nat.le_of_ble_eq_true rfl) hc28 rfl dX5_add_15 ?_
  refine b_icmp_ge F 39 dX5_add_16 rfl (fun hc => absurd hc (by decide)) (fun _ => ?_)
  refine b_aload_n F dX5_add_19 rfl 0 rfl ?_
  refine b_getR F (c := 5) (C := RX5) (T := TX5) (N := 4) (fs := [zr G 28, zr G 29, zr G 30, .int (3 : Int32)]) rfl uw_5 0 (by decide) (Nat.le_of_ble_eq_true rfl) hc27 rfl wF_X5_9 dX5_add_20 ?_
  refine b_aload_n F dX5_add_23 rfl 0 rfl ?_
  refine b_getR F (c := 5) (C := RX5) (T := TX5) (N := 4) (fs := [zr G 28, zr G 29, zr G 30, .int (3 : Int32)]) rfl uw_5 3 (by decide) (Nat.le_of_ble_eq_true rfl) hc27 rfl wF_X5_24 dX5_add_24 ?_
  refine b_iload_n F dX5_add_27 rfl 1 rfl ?_
  refine b_iast F (N' := 150) (f := (upd (upd (upd (fun _ => 0) (0 : Int32).toNatClampNeg (-7 : Int32)) (1 : Int32).toNatClampNeg (10 : Int32)) (2 : Int32).toNatClampNeg (-3 : Int32))) (Nat.le_of_ble_eq_true rfl) hc28 (vp_in_nI (n := 3) (by decide) (by decide)) dX5_add_28 ?_
  refine b_aload_n F dX5_add_29 rfl 0 rfl ?_
  refine b_dup F dX5_add_30 rfl ?_
  refine b_getR F (c := 5) (C := RX5) (T := TX5) (N := 4) (fs := [zr G 28, zr G 29, zr G 30, .int (3 : Int32)]) rfl uw_5 3 (by decide) (Nat.le_of_ble_eq_true rfl) hc27 rfl wF_X5_24 dX5_add_31 ?_
  refine b_iconst (y := (1 : Int32)) F dX5_add_34 rfl ?_
  refine b_iadd F dX5_add_35 ?_
  refine b_id (st := .int (4 : Int32) :: [zr G 27]) ?_
  refine b_put F (c := 5) (C := RX5) (T := TX5) (N := 4) (fs := [zr G 28, zr G 29, zr G 30, .int (3 : Int32)]) (ty := tyX5 3) tyX5 tyX5_ok nmX5 rfl uw_5 3 (by decide) rfl (tyX5_ok 3 (by decide)) rfl rfl (Nat.le_of_ble_eq_true rfl) hc27 (Nat.le_of_ble_eq_true rfl) wF_X5_24 dX5_add_36 ?_
  exact b_ret F hr hk (fun _ _ => rfl) dX5_add_39

def ceX5_add_27_im1_s11 (G : zG) (ce : Nat → va_E) : Nat → va_E := (bup (bup ce 28 (.inl (G.2.1 0, 150, .inl (upd (upd (upd (upd (upd (fun _ => 0) (0 : Int32).toNatClampNeg (-7 : Int32)) (1 : Int32).toNatClampNeg (10 : Int32)) (2 : Int32).toNatClampNeg (-3 : Int32)) (3 : Int32).toNatClampNeg (-9 : Int32)) (4 : Int32).toNatClampNeg (-1 : Int32))))) 27 (.inr (5, [zr G 28, zr G 29, zr G 30, .int (4 : Int32)].set 3 (.int (5 : Int32)))))
set_option maxRecDepth 20000 in
set_option maxHeartbeats 2000000 in
theorem kBX5_add_27_im1_s11 (l : Launch) (G : zG) (ce : Nat → va_E) (hc27 : ce 27 = .inr (5, [zr G 28, zr G 29, zr G 30, .int (4 : Int32)])) (hc28 : ce 28 = .inl (G.2.1 0, 150, (.inl (upd (upd (upd (upd (fun _ => 0) (0 : Int32).toNatClampNeg (-7 : Int32)) (1 : Int32).toNatClampNeg (10 : Int32)) (2 : Int32).toNatClampNeg (-3 : Int32)) (3 : Int32).toNatClampNeg (-9 : Int32))))) : zBM l yX5_add cX5_add 2 none 1 80 0 0 [zr G 27, .int (-1 : Int32)] G 31 ce 31 (ceX5_add_27_im1_s11 G ce) := by
  refine zBM_of (own := RX5) (by decide) rfl (Nat.le_of_ble_eq_true rfl) (fun x hl F hr hk hcs hini => ?_)
  subst hl
  refine b_ls [(0, zr G 27), (1, .int (-1 : Int32))] [0, 1] rfl ?_
  refine b_aload_n F dX5_add_0 rfl 0 rfl ?_
  refine b_getR F (c := 5) (C := RX5) (T := TX5) (N := 4) (fs := [zr G 28, zr G 29, zr G 30, .int (4 : Int32)]) rfl uw_5 3 (by decide) (Nat.le_of_ble_eq_true rfl) hc27 rfl wF_X5_24 dX5_add_1 ?_
  refine b_if_lt F 39 dX5_add_4 rfl (fun hc => absurd hc (by decide)) (fun _ => ?_)
  refine b_aload_n F dX5_add_7 rfl 0 rfl ?_
  refine b_getR F (c := 5) (C := RX5) (T := TX5) (N := 4) (fs := [zr G 28, zr G 29, zr G 30, .int (4 : Int32)]) rfl uw_5 3 (by decide) (Nat.le_of_ble_eq_true rfl) hc27 rfl wF_X5_24 dX5_add_8 ?_
  refine b_aload_n F dX5_add_11 rfl 0 rfl ?_
  refine b_getR F (c := 5) (C := RX5) (T := TX5) (N := 4) (fs := [zr G 28, zr G 29, zr G 30, .int (4 : Int32)]) rfl uw_5 0 (by decide) (Nat.le_of_ble_eq_true rfl) hc27 rfl wF_X5_9 dX5_add_12 ?_
  refine b_alen0 F (N' := 150) (f := (upd (upd (upd (upd (fun _ => 0) (0 : Int32).toNatClampNeg (-7 : Int32)) (1 : Int32).toNatClampNeg (10 : Int32)) (2 : Int32).toNatClampNeg (-3 : Int32)) (3 : Int32).toNatClampNeg (-9 : Int32))) (y := (150 : Int32)) (Nat.le_of_ble_eq_true rfl) hc28 rfl dX5_add_15 ?_
  refine b_icmp_ge F 39 dX5_add_16 rfl (fun hc => absurd hc (by decide)) (fun _ => ?_)
  refine b_aload_n F dX5_add_19 rfl 0 rfl ?_
  refine b_getR F (c := 5) (C := RX5) (T := TX5) (N := 4) (fs := [zr G 28, zr G 29, zr G 30, .int (4 : Int32)]) rfl uw_5 0 (by decide) (Nat.le_of_ble_eq_true rfl) hc27 rfl wF_X5_9 dX5_add_20 ?_
  refine b_aload_n F dX5_add_23 rfl 0 rfl ?_
  refine b_getR F (c := 5) (C := RX5) (T := TX5) (N := 4) (fs := [zr G 28, zr G 29, zr G 30, .int (4 : Int32)]) rfl uw_5 3 (by decide) (Nat.le_of_ble_eq_true rfl) hc27 rfl wF_X5_24 dX5_add_24 ?_
  refine b_iload_n F dX5_add_27 rfl 1 rfl ?_
  refine b_iast F (N' := 150) (f := (upd (upd (upd (upd (fun _ => 0) (0 : Int32).toNatClampNeg (-7 : Int32)) (1 : Int32).toNatClampNeg (10 : Int32)) (2 : Int32).toNatClampNeg (-3 : Int32)) (3 : Int32).toNatClampNeg (-9 : Int32))) (Nat.le_of_ble_eq_true rfl) hc28 (vp_in_nI (n := 4) (by decide) (by decide)) dX5_add_28 ?_
  refine b_aload_n F dX5_add_29 rfl 0 rfl ?_
  refine b_dup F dX5_add_30 rfl ?_
  refine b_getR F (c := 5) (C := RX5) (T := TX5) (N := 4) (fs := [zr G 28, zr G 29, zr G 30, .int (4 : Int32)]) rfl uw_5 3 (by decide) (Nat.le_of_ble_eq_true rfl) hc27 rfl wF_X5_24 dX5_add_31 ?_
  refine b_iconst (y := (1 : Int32)) F dX5_add_34 rfl ?_
  refine b_iadd F dX5_add_35 ?_
  refine b_id (st := .int (5 : Int32) :: [zr G 27]) ?_
  refine b_put F (c := 5) (C := RX5) (T := TX5) (N := 4) (fs := [zr G 28, zr G 29, zr G 30, .int (4 : Int32)]) (ty := tyX5 3) tyX5 tyX5_ok nmX5 rfl uw_5 3 (by decide) rfl (tyX5_ok 3 (by decide)) rfl rfl (Nat.le_of_ble_eq_true rfl) hc27 (Nat.le_of_ble_eq_true rfl) wF_X5_24 dX5_add_36 ?_
  exact b_ret F hr hk (fun _ _ => rfl) dX5_add_39

def ceX5_beUsual_27_s6 (G : zG) (ce : Nat → va_E) : Nat → va_E := (ceX5_add_27_im1_s11 G (ceX5_add_27_im9_s10 G (ceX5_add_27_im3_s9 G (ceX5_add_27_i10_s8 G (ceX5_add_27_im7_s7 G (bup ce 27 (.inr (5, [zr G 28, zr G 29, zr G 30, .int 0].set 3 (.int (0 : Int32))))))))))
set_option maxRecDepth 20000 in
set_option maxHeartbeats 2000000 in
theorem kBX5_beUsual_27_s6 (l : Launch) (G : zG) (ce : Nat → va_E) (hc27 : ce 27 = .inr (5, [zr G 28, zr G 29, zr G 30, .int 0])) (hc28 : ce 28 = .inl (G.2.1 0, 150, (.inl (fun _ => 0)))) : zBM l yX5_beUsual cX5_beUsual 1 none 2 101 0 0 [zr G 27] G 31 ce 31 (ceX5_beUsual_27_s6 G ce) := by
  refine zBM_of (own := RX5) (by decide) rfl (Nat.le_of_ble_eq_true rfl) (fun x hl F hr hk hcs hini => ?_)
  subst hl
  refine b_ls [(0, zr G 27)] [0] rfl ?_
  refine b_aload_n F dX5_beUsual_0 rfl 0 rfl ?_
  refine b_iconst (y := (0 : Int32)) F dX5_beUsual_1 rfl ?_
  refine b_put F (c := 5) (C := RX5) (T := TX5) (N := 4) (fs := [zr G 28, zr G 29, zr G 30, .int 0]) (ty := tyX5 3) tyX5 tyX5_ok nmX5 rfl uw_5 3 (by decide) rfl (tyX5_ok 3 (by decide)) rfl rfl (Nat.le_of_ble_eq_true rfl) hc27 (Nat.le_of_ble_eq_true rfl) wF_X5_24 dX5_beUsual_2 ?_
  refine b_aload_n F dX5_beUsual_5 rfl 0 rfl ?_
  refine b_bipush (y := (-7 : Int32)) F dX5_beUsual_6 rfl ?_
  refine b_callV F [.int (-7 : Int32)] [] (kBX5_add_27_im7_s7 x.2.1 G _ rfl hc28) mI_X5_add (c := 5) (fs := [zr G 28, zr G 29, zr G 30, .int (0 : Int32)]) rfl (Nat.le_of_ble_eq_true rfl) rfl wM_X5_28 mi_X5_add sl_X5_add dX5_beUsual_8 rfl ⟨Nat.le_of_ble_eq_true rfl, Nat.le_of_ble_eq_true rfl⟩ rfl (Nat.le_of_ble_eq_true rfl) ⟨Nat.le_trans (Nat.le_of_ble_eq_true rfl) hcs.1, Nat.le_trans (Nat.le_of_ble_eq_true rfl) hcs.2⟩ ?_
  refine b_aload_n F dX5_beUsual_11 rfl 0 rfl ?_
  refine b_bipush (y := (10 : Int32)) F dX5_beUsual_12 rfl ?_
  refine b_callV F [.int (10 : Int32)] [] (kBX5_add_27_i10_s8 x.2.1 G _ rfl rfl) mI_X5_add (c := 5) (fs := [zr G 28, zr G 29, zr G 30, .int (1 : Int32)]) rfl (Nat.le_of_ble_eq_true rfl) rfl wM_X5_28 mi_X5_add sl_X5_add dX5_beUsual_14 rfl ⟨Nat.le_of_ble_eq_true rfl, Nat.le_of_ble_eq_true rfl⟩ rfl (Nat.le_of_ble_eq_true rfl) ⟨Nat.le_trans (Nat.le_of_ble_eq_true rfl) hcs.1, Nat.le_trans (Nat.le_of_ble_eq_true rfl) hcs.2⟩ ?_
  refine b_aload_n F dX5_beUsual_17 rfl 0 rfl ?_
  refine b_bipush (y := (-3 : Int32)) F dX5_beUsual_18 rfl ?_
  refine b_callV F [.int (-3 : Int32)] [] (kBX5_add_27_im3_s9 x.2.1 G _ rfl rfl) mI_X5_add (c := 5) (fs := [zr G 28, zr G 29, zr G 30, .int (2 : Int32)]) rfl (Nat.le_of_ble_eq_true rfl) rfl wM_X5_28 mi_X5_add sl_X5_add dX5_beUsual_20 rfl ⟨Nat.le_of_ble_eq_true rfl, Nat.le_of_ble_eq_true rfl⟩ rfl (Nat.le_of_ble_eq_true rfl) ⟨Nat.le_trans (Nat.le_of_ble_eq_true rfl) hcs.1, Nat.le_trans (Nat.le_of_ble_eq_true rfl) hcs.2⟩ ?_
  refine b_aload_n F dX5_beUsual_23 rfl 0 rfl ?_
  refine b_bipush (y := (-9 : Int32)) F dX5_beUsual_24 rfl ?_
  refine b_callV F [.int (-9 : Int32)] [] (kBX5_add_27_im9_s10 x.2.1 G _ rfl rfl) mI_X5_add (c := 5) (fs := [zr G 28, zr G 29, zr G 30, .int (3 : Int32)]) rfl (Nat.le_of_ble_eq_true rfl) rfl wM_X5_28 mi_X5_add sl_X5_add dX5_beUsual_26 rfl ⟨Nat.le_of_ble_eq_true rfl, Nat.le_of_ble_eq_true rfl⟩ rfl (Nat.le_of_ble_eq_true rfl) ⟨Nat.le_trans (Nat.le_of_ble_eq_true rfl) hcs.1, Nat.le_trans (Nat.le_of_ble_eq_true rfl) hcs.2⟩ ?_
  refine b_aload_n F dX5_beUsual_29 rfl 0 rfl ?_
  refine b_iconst (y := (-1 : Int32)) F dX5_beUsual_30 rfl ?_
  refine b_callV F [.int (-1 : Int32)] [] (kBX5_add_27_im1_s11 x.2.1 G _ rfl rfl) mI_X5_add (c := 5) (fs := [zr G 28, zr G 29, zr G 30, .int (4 : Int32)]) rfl (Nat.le_of_ble_eq_true rfl) rfl wM_X5_28 mi_X5_add sl_X5_add dX5_beUsual_31 rfl ⟨Nat.le_of_ble_eq_true rfl, Nat.le_of_ble_eq_true rfl⟩ rfl (Nat.le_of_ble_eq_true rfl) ⟨Nat.le_trans (Nat.le_of_ble_eq_true rfl) hcs.1, Nat.le_trans (Nat.le_of_ble_eq_true rfl) hcs.2⟩ ?_
  exact b_ret F hr hk (fun _ _ => rfl) dX5_beUsual_34

def ceX5_init_27 (G : zG) (ce : Nat → va_E) : Nat → va_E := (ceX5_beUsual_27_s6 G (bup (bup (bup (bup (bup (bup ce 28 (.inl (G.2.1 0, 150, (.inl (fun _ => 0))))) 27 (.inr (5, [.null, .null, .null, .int 0].set 0 (zr G 28)))) 29 (.inl (G.2.1 0, 150, (.inl (fun _ => 0))))) 27 (.inr (5, [zr G 28, .null, .null, .int 0].set 1 (zr G 29)))) 30 (.inl (G.2.1 0, 7, (.inl (fun _ => 0))))) 27 (.inr (5, [zr G 28, zr G 29, .null, .int 0].set 2 (zr G 30)))))
set_option maxRecDepth 20000 in
set_option maxHeartbeats 2000000 in
theorem kBX5_init_27 (l : Launch) (G : zG) (ce : Nat → va_E) (hc27 : ce 27 = .inr (5, [.null, .null, .null, .int 0])) : zBM l yX5_init cX5_init 1 none 3 121 3 307 [zr G 27] G 28 ce 31 (ceX5_init_27 G ce) := by
  refine zBM_of (own := RX5) (by decide) rfl (Nat.le_of_ble_eq_true rfl) (fun x hl F hr hk hcs hini => ?_)
  subst hl
  refine b_ls [(0, zr G 27)] [0] rfl ?_
  refine b_aload_n F dX5_init_0 rfl 0 rfl ?_
  refine b_obj F zol_X5_3 zob_2 zob_3 (Nat.le_of_ble_eq_true rfl) (Nat.le_of_ble_eq_true rfl) (Nat.le_of_ble_eq_true rfl) dX5_init_1 ?_
  refine b_aload_n F dX5_init_4 rfl 0 rfl ?_
  refine b_sipush (y := (150 : Int32)) F dX5_init_5 rfl ?_
  refine b_newa F (atype := .int) (ty := .int) (a0 := (150, (.inl (fun _ => 0)))) 0 rfl rfl (by intro C q; cases q) zac_int (fun _ => rfl) (by decide) (by decide) (Nat.le_of_ble_eq_true rfl) ⟨Nat.le_trans (Nat.le_of_ble_eq_true rfl) hcs.1, Nat.le_trans (Nat.le_of_ble_eq_true rfl) hcs.2⟩ dX5_init_8 ?_
  refine b_putF F hini (c := 5) (C := RX5) (T := TX5) (N := 4) (fs := [.null, .null, .null, .int 0]) (ty := tyX5 0) tyX5 tyX5_ok nmX5 rfl uw_5 0 (by decide) rfl rfl (tyX5_ok 0 (by decide)) rfl rfl (Nat.le_of_ble_eq_true rfl) hc27 (Nat.le_of_ble_eq_true rfl) wF_X5_9 dX5_init_10 ?_
  refine b_aload_n F dX5_init_13 rfl 0 rfl ?_
  refine b_sipush (y := (150 : Int32)) F dX5_init_14 rfl ?_
  refine b_newa F (atype := .int) (ty := .int) (a0 := (150, (.inl (fun _ => 0)))) 0 rfl rfl (by intro C q; cases q) zac_int (fun _ => rfl) (by decide) (by decide) (Nat.le_of_ble_eq_true rfl) ⟨Nat.le_trans (Nat.le_of_ble_eq_true rfl) hcs.1, Nat.le_trans (Nat.le_of_ble_eq_true rfl) hcs.2⟩ dX5_init_17 ?_
  refine b_putF F hini (c := 5) (C := RX5) (T := TX5) (N := 4) (fs := [zr G 28, .null, .null, .int 0]) (ty := tyX5 1) tyX5 tyX5_ok nmX5 rfl uw_5 1 (by decide) rfl rfl (tyX5_ok 1 (by decide)) rfl rfl (Nat.le_of_ble_eq_true rfl) rfl (Nat.le_of_ble_eq_true rfl) wF_X5_15 dX5_init_19 ?_
  refine b_aload_n F dX5_init_22 rfl 0 rfl ?_
  refine b_bipush (y := (7 : Int32)) F dX5_init_23 rfl ?_
  refine b_newa F (atype := .int) (ty := .int) (a0 := (7, (.inl (fun _ => 0)))) 0 rfl rfl (by intro C q; cases q) zac_int (fun _ => rfl) (by decide) (by decide) (Nat.le_of_ble_eq_true rfl) ⟨Nat.le_trans (Nat.le_of_ble_eq_true rfl) hcs.1, Nat.le_trans (Nat.le_of_ble_eq_true rfl) hcs.2⟩ dX5_init_25 ?_
  refine b_putF F hini (c := 5) (C := RX5) (T := TX5) (N := 4) (fs := [zr G 28, zr G 29, .null, .int 0]) (ty := tyX5 2) tyX5 tyX5_ok nmX5 rfl uw_5 2 (by decide) rfl rfl (tyX5_ok 2 (by decide)) rfl rfl (Nat.le_of_ble_eq_true rfl) rfl (Nat.le_of_ble_eq_true rfl) wF_X5_18 dX5_init_27 ?_
  refine b_aload_n F dX5_init_30 rfl 0 rfl ?_
  refine b_callV F [] [] (kBX5_beUsual_27_s6 x.2.1 G _ rfl rfl) mI_X5_beUsual (c := 5) (fs := [zr G 28, zr G 29, zr G 30, .int 0]) rfl (Nat.le_of_ble_eq_true rfl) rfl wM_X5_21 mi_X5_beUsual sl_X5_beUsual dX5_init_31 rfl ⟨Nat.le_of_ble_eq_true rfl, Nat.le_of_ble_eq_true rfl⟩ rfl (Nat.le_of_ble_eq_true rfl) ⟨Nat.le_trans (Nat.le_of_ble_eq_true rfl) hcs.1, Nat.le_trans (Nat.le_of_ble_eq_true rfl) hcs.2⟩ ?_
  exact b_ret F hr hk (fun _ _ => rfl) dX5_init_34

theorem zcl_X9_36 : Cond.classLink RX9 36 RX1 ∈ zTbl := zTbl_of (zin_1 (List.mem_of_getElem? (i := 165) (by decide +kernel))) rfl
theorem zin_RX1 : Cond.instantiable RX1 3 ∈ zTbl := zTbl_of (zin_1 (List.mem_of_getElem? (i := 166) (by decide +kernel))) rfl
theorem zol_X1_3 : Cond.methodLink RX1 3 objectInit ∈ zTbl := zTbl_of (zin_1 (List.mem_of_getElem? (i := 170) (by decide +kernel))) rfl
theorem dX1_init_0 : decode cX1_init 0 = .ok (.aload_n 0, 1) := by decide +kernel
theorem dX1_init_1 : decode cX1_init 1 = .ok (.invokespecial 3, 3) := by decide +kernel
theorem dX1_init_4 : decode cX1_init 4 = .ok (.aload_n 0, 1) := by decide +kernel
theorem dX1_init_5 : decode cX1_init 5 = .ok (.bipush 12, 2) := by decide +kernel
theorem dX1_init_7 : decode cX1_init 7 = .ok (.newarray .int, 2) := by decide +kernel
theorem dX1_init_9 : decode cX1_init 9 = .ok (.putfield 9, 3) := by decide +kernel
theorem dX1_init_12 : decode cX1_init 12 = .ok (.aload_n 0, 1) := by decide +kernel
theorem dX1_init_13 : decode cX1_init 13 = .ok (.bipush 12, 2) := by decide +kernel
theorem dX1_init_15 : decode cX1_init 15 = .ok (.newarray .int, 2) := by decide +kernel
theorem dX1_init_17 : decode cX1_init 17 = .ok (.putfield 15, 3) := by decide +kernel
theorem dX1_init_20 : decode cX1_init 20 = .ok (.return_, 1) := by decide +kernel
def ceX1_init_31 (G : zG) (ce : Nat → va_E) : Nat → va_E := (bup (bup (bup (bup ce 32 (.inl (G.2.1 0, 12, (.inl (fun _ => 0))))) 31 (.inr (1, [.int 0, .null, .null].set 1 (zr G 32)))) 33 (.inl (G.2.1 0, 12, (.inl (fun _ => 0))))) 31 (.inr (1, [.int 0, zr G 32, .null].set 2 (zr G 33))))
set_option maxRecDepth 20000 in
set_option maxHeartbeats 2000000 in
theorem kBX1_init_31 (l : Launch) (G : zG) (ce : Nat → va_E) (hc31 : ce 31 = .inr (1, [.int 0, .null, .null])) : zBM l yX1_init cX1_init 1 none 1 80 2 24 [zr G 31] G 32 ce 34 (ceX1_init_31 G ce) := by
  refine zBM_of (own := RX1) (by decide) rfl (Nat.le_of_ble_eq_true rfl) (fun x hl F hr hk hcs hini => ?_)
  subst hl
  refine b_ls [(0, zr G 31)] [0] rfl ?_
  refine b_aload_n F dX1_init_0 rfl 0 rfl ?_
  refine b_obj F zol_X1_3 zob_2 zob_3 (Nat.le_of_ble_eq_true rfl) (Nat.le_of_ble_eq_true rfl) (Nat.le_of_ble_eq_true rfl) dX1_init_1 ?_
  refine b_aload_n F dX1_init_4 rfl 0 rfl ?_
  refine b_bipush (y := (12 : Int32)) F dX1_init_5 rfl ?_
  refine b_newa F (atype := .int) (ty := .int) (a0 := (12, (.inl (fun _ => 0)))) 0 rfl rfl (by intro C q; cases q) zac_int (fun _ => rfl) (by decide) (by decide) (Nat.le_of_ble_eq_true rfl) ⟨Nat.le_trans (Nat.le_of_ble_eq_true rfl) hcs.1, Nat.le_trans (Nat.le_of_ble_eq_true rfl) hcs.2⟩ dX1_init_7 ?_
  refine b_putF F hini (c := 1) (C := RX1) (T := TX1) (N := 3) (fs := [.int 0, .null, .null]) (ty := tyX1 1) tyX1 tyX1_ok nmX1 rfl uw_1 1 (by decide) rfl rfl (tyX1_ok 1 (by decide)) rfl rfl (Nat.le_of_ble_eq_true rfl) hc31 (Nat.le_of_ble_eq_true rfl) wF_X1_9 dX1_init_9 ?_
  refine b_aload_n F dX1_init_12 rfl 0 rfl ?_
  refine b_bipush (y := (12 : Int32)) F dX1_init_13 rfl ?_
  refine b_newa F (atype := .int) (ty := .int) (a0 := (12, (.inl (fun _ => 0)))) 0 rfl rfl (by intro C q; cases q) zac_int (fun _ => rfl) (by decide) (by decide) (Nat.le_of_ble_eq_true rfl) ⟨Nat.le_trans (Nat.le_of_ble_eq_true rfl) hcs.1, Nat.le_trans (Nat.le_of_ble_eq_true rfl) hcs.2⟩ dX1_init_15 ?_
  refine b_putF F hini (c := 1) (C := RX1) (T := TX1) (N := 3) (fs := [.int 0, zr G 32, .null]) (ty := tyX1 2) tyX1 tyX1_ok nmX1 rfl uw_1 2 (by decide) rfl rfl (tyX1_ok 2 (by decide)) rfl rfl (Nat.le_of_ble_eq_true rfl) rfl (Nat.le_of_ble_eq_true rfl) wF_X1_15 dX1_init_17 ?_
  exact b_ret F hr hk (fun _ _ => rfl) dX1_init_20

def ceX1_init_34 (G : zG) (ce : Nat → va_E) : Nat → va_E := (bup (bup (bup (bup ce 35 (.inl (G.2.1 0, 12, (.inl (fun _ => 0))))) 34 (.inr (1, [.int 0, .null, .null].set 1 (zr G 35)))) 36 (.inl (G.2.1 0, 12, (.inl (fun _ => 0))))) 34 (.inr (1, [.int 0, zr G 35, .null].set 2 (zr G 36))))
set_option maxRecDepth 20000 in
set_option maxHeartbeats 2000000 in
theorem kBX1_init_34 (l : Launch) (G : zG) (ce : Nat → va_E) (hc34 : ce 34 = .inr (1, [.int 0, .null, .null])) : zBM l yX1_init cX1_init 1 none 1 80 2 24 [zr G 34] G 35 ce 37 (ceX1_init_34 G ce) := by
  refine zBM_of (own := RX1) (by decide) rfl (Nat.le_of_ble_eq_true rfl) (fun x hl F hr hk hcs hini => ?_)
  subst hl
  refine b_ls [(0, zr G 34)] [0] rfl ?_
  refine b_aload_n F dX1_init_0 rfl 0 rfl ?_
  refine b_obj F zol_X1_3 zob_2 zob_3 (Nat.le_of_ble_eq_true rfl) (Nat.le_of_ble_eq_true rfl) (Nat.le_of_ble_eq_true rfl) dX1_init_1 ?_
  refine b_aload_n F dX1_init_4 rfl 0 rfl ?_
  refine b_bipush (y := (12 : Int32)) F dX1_init_5 rfl ?_
  refine b_newa F (atype := .int) (ty := .int) (a0 := (12, (.inl (fun _ => 0)))) 0 rfl rfl (by intro C q; cases q) zac_int (fun _ => rfl) (by decide) (by decide) (Nat.le_of_ble_eq_true rfl) ⟨Nat.le_trans (Nat.le_of_ble_eq_true rfl) hcs.1, Nat.le_trans (Nat.le_of_ble_eq_true rfl) hcs.2⟩ dX1_init_7 ?_
  refine b_putF F hini (c := 1) (C := RX1) (T := TX1) (N := 3) (fs := [.int 0, .null, .null]) (ty := tyX1 1) tyX1 tyX1_ok nmX1 rfl uw_1 1 (by decide) rfl rfl (tyX1_ok 1 (by decide)) rfl rfl (Nat.le_of_ble_eq_true rfl) hc34 (Nat.le_of_ble_eq_true rfl) wF_X1_9 dX1_init_9 ?_
  refine b_aload_n F dX1_init_12 rfl 0 rfl ?_
  refine b_bipush (y := (12 : Int32)) F dX1_init_13 rfl ?_
  refine b_newa F (atype := .int) (ty := .int) (a0 := (12, (.inl (fun _ => 0)))) 0 rfl rfl (by intro C q; cases q) zac_int (fun _ => rfl) (by decide) (by decide) (Nat.le_of_ble_eq_true rfl) ⟨Nat.le_trans (Nat.le_of_ble_eq_true rfl) hcs.1, Nat.le_trans (Nat.le_of_ble_eq_true rfl) hcs.2⟩ dX1_init_15 ?_
  refine b_putF F hini (c := 1) (C := RX1) (T := TX1) (N := 3) (fs := [.int 0, zr G 35, .null]) (ty := tyX1 2) tyX1 tyX1_ok nmX1 rfl uw_1 2 (by decide) rfl rfl (tyX1_ok 2 (by decide)) rfl rfl (Nat.le_of_ble_eq_true rfl) rfl (Nat.le_of_ble_eq_true rfl) wF_X1_15 dX1_init_17 ?_
  exact b_ret F hr hk (fun _ _ => rfl) dX1_init_20

theorem zcl_X9_46 : Cond.classLink RX9 46 RX7 ∈ zTbl := zTbl_of (zin_1 (List.mem_of_getElem? (i := 185) (by decide +kernel))) rfl
theorem zin_RX7 : Cond.instantiable RX7 13 ∈ zTbl := zTbl_of (zin_1 (List.mem_of_getElem? (i := 186) (by decide +kernel))) rfl
theorem zol_X7_3 : Cond.methodLink RX7 3 objectInit ∈ zTbl := zTbl_of (zin_1 (List.mem_of_getElem? (i := 190) (by decide +kernel))) rfl
theorem dX7_init_0 : decode cX7_init 0 = .ok (.aload_n 0, 1) := by decide +kernel
theorem dX7_init_1 : decode cX7_init 1 = .ok (.invokespecial 3, 3) := by decide +kernel
theorem dX7_init_4 : decode cX7_init 4 = .ok (.aload_n 0, 1) := by decide +kernel
theorem dX7_init_5 : decode cX7_init 5 = .ok (.iconst 1, 1) := by decide +kernel
theorem dX7_init_6 : decode cX7_init 6 = .ok (.putfield 9, 3) := by decide +kernel
theorem dX7_init_9 : decode cX7_init 9 = .ok (.aload_n 0, 1) := by decide +kernel
theorem dX7_init_10 : decode cX7_init 10 = .ok (.bipush 13, 2) := by decide +kernel
theorem dX7_init_12 : decode cX7_init 12 = .ok (.newarray .int, 2) := by decide +kernel
theorem dX7_init_14 : decode cX7_init 14 = .ok (.putfield 15, 3) := by decide +kernel
theorem dX7_init_17 : decode cX7_init 17 = .ok (.aload_n 0, 1) := by decide +kernel
theorem dX7_init_18 : decode cX7_init 18 = .ok (.bipush 16, 2) := by decide +kernel
theorem dX7_init_20 : decode cX7_init 20 = .ok (.newarray .int, 2) := by decide +kernel
theorem dX7_init_22 : decode cX7_init 22 = .ok (.putfield 19, 3) := by decide +kernel
theorem dX7_init_25 : decode cX7_init 25 = .ok (.aload_n 0, 1) := by decide +kernel
theorem dX7_init_26 : decode cX7_init 26 = .ok (.bipush 16, 2) := by decide +kernel
theorem dX7_init_28 : decode cX7_init 28 = .ok (.newarray .int, 2) := by decide +kernel
theorem dX7_init_30 : decode cX7_init 30 = .ok (.putfield 22, 3) := by decide +kernel
theorem dX7_init_33 : decode cX7_init 33 = .ok (.aload_n 0, 1) := by decide +kernel
theorem dX7_init_34 : decode cX7_init 34 = .ok (.bipush 16, 2) := by decide +kernel
theorem dX7_init_36 : decode cX7_init 36 = .ok (.newarray .int, 2) := by decide +kernel
theorem dX7_init_38 : decode cX7_init 38 = .ok (.putfield 25, 3) := by decide +kernel
theorem dX7_init_41 : decode cX7_init 41 = .ok (.aload_n 0, 1) := by decide +kernel
theorem dX7_init_42 : decode cX7_init 42 = .ok (.bipush 16, 2) := by decide +kernel
theorem dX7_init_44 : decode cX7_init 44 = .ok (.newarray .int, 2) := by decide +kernel
theorem dX7_init_46 : decode cX7_init 46 = .ok (.putfield 28, 3) := by decide +kernel
theorem dX7_init_49 : decode cX7_init 49 = .ok (.return_, 1) := by decide +kernel
def ceX7_init_37 (G : zG) (ce : Nat → va_E) : Nat → va_E := (bup (bup (bup (bup (bup (bup (bup (bup (bup (bup (bup ce 37 (.inr (7, [.int 0, .int 0, .int 0, .int 0, .int 0, .int 0, .int 0, .int 0, .null, .null, .null, .null, .null].set 0 (.int (1 : Int32))))) 38 (.inl (G.2.1 0, 13, (.inl (fun _ => 0))))) 37 (.inr (7, [.int (1 : Int32), .int 0, .int 0, .int 0, .int 0, .int 0, .int 0, .int 0, .null, .null, .null, .null, .null].set 8 (zr G 38)))) 39 (.inl (G.2.1 0, 16, (.inl (fun _ => 0))))) 37 (.inr (7, [.int (1 : Int32), .int 0, .int 0, .int 0, .int 0, .int 0, .int 0, .int 0, zr G 38, .null, .null, .null, .null].set 9 (zr G 39)))) 40 (.inl (G.2.1 0, 16, (.inl (fun _ => 0))))) 37 (.inr (7, [.int (1 : Int32), .int 0, .int 0, .int 0, .int 0, .int 0, .int 0, .int 0, zr G 38, zr G 39, .null, .null, .null].set 10 (zr G 40)))) 41 (.inl (G.2.1 0, 16, (.inl (fun _ => 0))))) 37 (.inr (7, [.int (1 : Int32), .int 0, .int 0, .int 0, .int 0, .int 0, .int 0, .int 0, zr G 38, zr G 39, zr G 40, .null, .null].set 11 (zr G 41)))) 42 (.inl (G.2.1 0, 16, (.inl (fun _ => 0))))) 37 (.inr (7, [.int (1 : Int32), .int 0, .int 0, .int 0, .int 0, .int 0, .int 0, .int 0, zr G 38, zr G 39, zr G 40, zr G 41, .null].set 12 (zr G 42))))
set_option maxRecDepth 20000 in
set_option maxHeartbeats 2000000 in
theorem kBX7_init_37 (l : Launch) (G : zG) (ce : Nat → va_E) (hc37 : ce 37 = .inr (7, [.int 0, .int 0, .int 0, .int 0, .int 0, .int 0, .int 0, .int 0, .null, .null, .null, .null, .null])) : zBM l yX7_init cX7_init 1 none 1 80 5 77 [zr G 37] G 38 ce 43 (ceX7_init_37 G ce) := by
  refine zBM_of (own := RX7) (by decide) rfl (Nat.le_of_ble_eq_true rfl) (fun x hl F hr hk hcs hini => ?_)
  subst hl
  refine b_ls [(0, zr G 37)] [0] rfl ?_
  refine b_aload_n F dX7_init_0 rfl 0 rfl ?_
  refine b_obj F zol_X7_3 zob_2 zob_3 (Nat.le_of_ble_eq_true rfl) (Nat.le_of_ble_eq_true rfl) (Nat.le_of_ble_eq_true rfl) dX7_init_1 ?_
  refine b_aload_n F dX7_init_4 rfl 0 rfl ?_
  refine b_iconst (y := (1 : Int32)) F dX7_init_5 rfl ?_
  refine b_put F (c := 7) (C := RX7) (T := TX7) (N := 13) (fs := [.int 0, .int 0, .int 0, .int 0, .int 0, .int 0, .int 0, .int 0, .null, .null, .null, .null, .null]) (ty := tyX7 0) tyX7 tyX7_ok nmX7 rfl uw_7 0 (by decide) rfl (tyX7_ok 0 (by decide)) rfl rfl (Nat.le_of_ble_eq_true rfl) hc37 (Nat.le_of_ble_eq_true rfl) wF_X7_9 dX7_init_6 ?_
  refine b_aload_n F dX7_init_9 rfl 0 rfl ?_
  refine b_bipush (y := (13 : Int32)) F dX7_init_10 rfl ?_
  refine b_newa F (atype := .int) (ty := .int) (a0 := (13, (.inl (fun _ => 0)))) 0 rfl rfl (by intro C q; cases q) zac_int (fun _ => rfl) (by decide) (by decide) (Nat.le_of_ble_eq_true rfl) ⟨Nat.le_trans (Nat.le_of_ble_eq_true rfl) hcs.1, Nat.le_trans (Nat.le_of_ble_eq_true rfl) hcs.2⟩ dX7_init_12 ?_
  refine b_putF F hini (c := 7) (C := RX7) (T := TX7) (N := 13) (fs := [.int (1 : Int32), .int 0, .int 0, .int 0, .int 0, .int 0, .int 0, .int 0, .null, .null, .null, .null, .null]) (ty := tyX7 8) tyX7 tyX7_ok nmX7 rfl uw_7 8 (by decide) rfl rfl (tyX7_ok 8 (by decide)) rfl rfl (Nat.le_of_ble_eq_true rfl) rfl (Nat.le_of_ble_eq_true rfl) wF_X7_15 dX7_init_14 ?_
  refine b_aload_n F dX7_init_17 rfl 0 rfl ?_
  refine b_bipush (y := (16 : Int32)) F dX7_init_18 rfl ?_
  refine b_newa F (atype := .int) (ty := .int) (a0 := (16, (.inl (fun _ => 0)))) 0 rfl rfl (by intro C q; cases q) zac_int (fun _ => rfl) (by decide) (by decide) (Nat.le_of_ble_eq_true rfl) ⟨Nat.le_trans (Nat.le_of_ble_eq_true rfl) hcs.1, Nat.le_trans (Nat.le_of_ble_eq_true rfl) hcs.2⟩ dX7_init_20 ?_
  refine b_putF F hini (c := 7) (C := RX7) (T := TX7) (N := 13) (fs := [.int (1 : Int32), .int 0, .int 0, .int 0, .int 0, .int 0, .int 0, .int 0, zr G 38, .null, .null, .null, .null]) (ty := tyX7 9) tyX7 tyX7_ok nmX7 rfl uw_7 9 (by decide) rfl rfl (tyX7_ok 9 (by decide)) rfl rfl (Nat.le_of_ble_eq_true rfl) rfl (Nat.le_of_ble_eq_true rfl) wF_X7_19 dX7_init_22 ?_
  refine b_aload_n F dX7_init_25 rfl 0 rfl ?_
  refine b_bipush (y := (16 : Int32)) F dX7_init_26 rfl ?_
  refine b_newa F (atype := .int) (ty := .int) (a0 := (16, (.inl (fun _ => 0)))) 0 rfl rfl (by intro C q; cases q) zac_int (fun _ => rfl) (by decide) (by decide) (Nat.le_of_ble_eq_true rfl) ⟨Nat.le_trans (Nat.le_of_ble_eq_true rfl) hcs.1, Nat.le_trans (Nat.le_of_ble_eq_true rfl) hcs.2⟩ dX7_init_28 ?_
  refine b_putF F hini (c := 7) (C := RX7) (T := TX7) (N := 13) (fs := [.int (1 : Int32), .int 0, .int 0, .int 0, .int 0, .int 0, .int 0, .int 0, zr G 38, zr G 39, .null, .null, .null]) (ty := tyX7 10) tyX7 tyX7_ok nmX7 rfl uw_7 10 (by decide) rfl rfl (tyX7_ok 10 (by decide)) rfl rfl (Nat.le_of_ble_eq_true rfl) rfl (Nat.le_of_ble_eq_true rfl) wF_X7_22 dX7_init_30 ?_
  refine b_aload_n F dX7_init_33 rfl 0 rfl ?_
  refine b_bipush (y := (16 : Int32)) F dX7_init_34 rfl ?_
  refine b_newa F (atype := .int) (ty := .int) (a0 := (16, (.inl (fun _ => 0)))) 0 rfl rfl (by intro C q; cases q) zac_int (fun _ => rfl) (by decide) (by decide) (Nat.le_of_ble_eq_true rfl) ⟨Nat.le_trans (Nat.le_of_ble_eq_true rfl) hcs.1, Nat.le_trans (Nat.le_of_ble_eq_true rfl) hcs.2⟩ dX7_init_36 ?_
  refine b_putF F hini (c := 7) (C := RX7) (T := TX7) (N := 13) (fs := [.int (1 : Int32), .int 0, .int 0, .int 0, .int 0, .int 0, .int 0, .int 0, zr G 38, zr G 39, zr G 40, .null, .null]) (ty := tyX7 11) tyX7 tyX7_ok nmX7 rfl uw_7 11 (by decide) rfl rfl (tyX7_ok 11 (by decide)) rfl rfl (Nat.le_of_ble_eq_true rfl) rfl (Nat.le_of_ble_eq_true rfl) wF_X7_25 dX7_init_38 ?_
  refine b_aload_n F dX7_init_41 rfl 0 rfl ?_
  refine b_bipush (y := (16 : Int32)) F dX7_init_42 rfl ?_
  refine b_newa F (atype := .int) (ty := .int) (a0 := (16, (.inl (fun _ => 0)))) 0 rfl rfl (by intro C q; cases q) zac_int (fun _ => rfl) (by decide) (by decide) (Nat.le_of_ble_eq_true rfl) ⟨Nat.le_trans (Nat.le_of_ble_eq_true rfl) hcs.1, Nat.le_trans (Nat.le_of_ble_eq_true rfl) hcs.2⟩ dX7_init_44 ?_
  refine b_putF F hini (c := 7) (C := RX7) (T := TX7) (N := 13) (fs := [.int (1 : Int32), .int 0, .int 0, .int 0, .int 0, .int 0, .int 0, .int 0, zr G 38, zr G 39, zr G 40, zr G 41, .null]) (ty := tyX7 12) tyX7 tyX7_ok nmX7 rfl uw_7 12 (by decide) rfl rfl (tyX7_ok 12 (by decide)) rfl rfl (Nat.le_of_ble_eq_true rfl) rfl (Nat.le_of_ble_eq_true rfl) wF_X7_28 dX7_init_46 ?_
  exact b_ret F hr hk (fun _ _ => rfl) dX7_init_49

def ceX7_init_43 (G : zG) (ce : Nat → va_E) : Nat → va_E := (bup (bup (bup (bup (bup (bup (bup (bup (bup (bup (bup ce 43 (.inr (7, [.int 0, .int 0, .int 0, .int 0, .int 0, .int 0, .int 0, .int 0, .null, .null, .null, .null, .null].set 0 (.int (1 : Int32))))) 44 (.inl (G.2.1 0, 13, (.inl (fun _ => 0))))) 43 (.inr (7, [.int (1 : Int32), .int 0, .int 0, .int 0, .int 0, .int 0, .int 0, .int 0, .null, .null, .null, .null, .null].set 8 (zr G 44)))) 45 (.inl (G.2.1 0, 16, (.inl (fun _ => 0))))) 43 (.inr (7, [.int (1 : Int32), .int 0, .int 0, .int 0, .int 0, .int 0, .int 0, .int 0, zr G 44, .null, .null, .null, .null].set 9 (zr G 45)))) 46 (.inl (G.2.1 0, 16, (.inl (fun _ => 0))))) 43 (.inr (7, [.int (1 : Int32), .int 0, .int 0, .int 0, .int 0, .int 0, .int 0, .int 0, zr G 44, zr G 45, .null, .null, .null].set 10 (zr G 46)))) 47 (.inl (G.2.1 0, 16, (.inl (fun _ => 0))))) 43 (.inr (7, [.int (1 : Int32), .int 0, .int 0, .int 0, .int 0, .int 0, .int 0, .int 0, zr G 44, zr G 45, zr G 46, .null, .null].set 11 (zr G 47)))) 48 (.inl (G.2.1 0, 16, (.inl (fun _ => 0))))) 43 (.inr (7, [.int (1 : Int32), .int 0, .int 0, .int 0, .int 0, .int 0, .int 0, .int 0, zr G 44, zr G 45, zr G 46, zr G 47, .null].set 12 (zr G 48))))
set_option maxRecDepth 20000 in
set_option maxHeartbeats 2000000 in
theorem kBX7_init_43 (l : Launch) (G : zG) (ce : Nat → va_E) (hc43 : ce 43 = .inr (7, [.int 0, .int 0, .int 0, .int 0, .int 0, .int 0, .int 0, .int 0, .null, .null, .null, .null, .null])) : zBM l yX7_init cX7_init 1 none 1 80 5 77 [zr G 43] G 44 ce 49 (ceX7_init_43 G ce) := by
  refine zBM_of (own := RX7) (by decide) rfl (Nat.le_of_ble_eq_true rfl) (fun x hl F hr hk hcs hini => ?_)
  subst hl
  refine b_ls [(0, zr G 43)] [0] rfl ?_
  refine b_aload_n F dX7_init_0 rfl 0 rfl ?_
  refine b_obj F zol_X7_3 zob_2 zob_3 (Nat.le_of_ble_eq_true rfl) (Nat.le_of_ble_eq_true rfl) (Nat.le_of_ble_eq_true rfl) dX7_init_1 ?_
  refine b_aload_n F dX7_init_4 rfl 0 rfl ?_
  refine b_iconst (y := (1 : Int32)) F dX7_init_5 rfl ?_
  refine b_put F (c := 7) (C := RX7) (T := TX7) (N := 13) (fs := [.int 0, .int 0, .int 0, .int 0, .int 0, .int 0, .int 0, .int 0, .null, .null, .null, .null, .null]) (ty := tyX7 0) tyX7 tyX7_ok nmX7 rfl uw_7 0 (by decide) rfl (tyX7_ok 0 (by decide)) rfl rfl (Nat.le_of_ble_eq_true rfl) hc43 (Nat.le_of_ble_eq_true rfl) wF_X7_9 dX7_init_6 ?_
  refine b_aload_n F dX7_init_9 rfl 0 rfl ?_
  refine b_bipush (y := (13 : Int32)) F dX7_init_10 rfl ?_
  refine b_newa F (atype := .int) (ty := .int) (a0 := (13, (.inl (fun _ => 0)))) 0 rfl rfl (by intro C q; cases q) zac_int (fun _ => rfl) (by decide) (by decide) (Nat.le_of_ble_eq_true rfl) ⟨Nat.le_trans (Nat.le_of_ble_eq_true rfl) hcs.1, Nat.le_trans (Nat.le_of_ble_eq_true rfl) hcs.2⟩ dX7_init_12 ?_
  refine b_putF F hini (c := 7) (C := RX7) (T := TX7) (N := 13) (fs := [.int (1 : Int32), .int 0, .int 0, .int 0, .int 0, .int 0, .int 0, .int 0, .null, .null, .null, .null, .null]) (ty := tyX7 8) tyX7 tyX7_ok nmX7 rfl uw_7 8 (by decide) rfl rfl (tyX7_ok 8 (by decide)) rfl rfl (Nat.le_of_ble_eq_true rfl) rfl (Nat.le_of_ble_eq_true rfl) wF_X7_15 dX7_init_14 ?_
  refine b_aload_n F dX7_init_17 rfl 0 rfl ?_
  refine b_bipush (y := (16 : Int32)) F dX7_init_18 rfl ?_
  refine b_newa F (atype := .int) (ty := .int) (a0 := (16, (.inl (fun _ => 0)))) 0 rfl rfl (by intro C q; cases q) zac_int (fun _ => rfl) (by decide) (by decide) (Nat.le_of_ble_eq_true rfl) ⟨Nat.le_trans (Nat.le_of_ble_eq_true rfl) hcs.1, Nat.le_trans (Nat.le_of_ble_eq_true rfl) hcs.2⟩ dX7_init_20 ?_
  refine b_putF F hini (c := 7) (C := RX7) (T := TX7) (N := 13) (fs := [.int (1 : Int32), .int 0, .int 0, .int 0, .int 0, .int 0, .int 0, .int 0, zr G 44, .null, .null, .null, .null]) (ty := tyX7 9) tyX7 tyX7_ok nmX7 rfl uw_7 9 (by decide) rfl rfl (tyX7_ok 9 (by decide)) rfl rfl (Nat.le_of_ble_eq_true rfl) rfl (Nat.le_of_ble_eq_true rfl) wF_X7_19 dX7_init_22 ?_
  refine b_aload_n F dX7_init_25 rfl 0 rfl ?_
  refine b_bipush (y := (16 : Int32)) F dX7_init_26 rfl ?_
  refine b_newa F (atype := .int) (ty := .int) (a0 := (16, (.inl (fun _ => 0)))) 0 rfl rfl (by intro C q; cases q) zac_int (fun _ => rfl) (by decide) (by decide) (Nat.le_of_ble_eq_true rfl) ⟨Nat.le_trans (Nat.le_of_ble_eq_true rfl) hcs.1, Nat.le_trans (Nat.le_of_ble_eq_true rfl) hcs.2⟩ dX7_init_28 ?_
  refine b_putF F hini (c := 7) (C := RX7) (T := TX7) (N := 13) (fs := [.int (1 : Int32), .int 0, .int 0, .int 0, .int 0, .int 0, .int 0, .int 0, zr G 44, zr G 45, .null, .null, .null]) (ty := tyX7 10) tyX7 tyX7_ok nmX7 rfl uw_7 10 (by decide) rfl rfl (tyX7_ok 10 (by decide)) rfl rfl (Nat.le_of_ble_eq_true rfl) rfl (Nat.le_of_ble_eq_true rfl) wF_X7_22 dX7_init_30 ?_
  refine b_aload_n F dX7_init_33 rfl 0 rfl ?_
  refine b_bipush (y := (16 : Int32)) F dX7_init_34 rfl ?_
  refine b_newa F (atype := .int) (ty := .int) (a0 := (16, (.inl (fun _ => 0)))) 0 rfl rfl (by intro C q; cases q) zac_int (fun _ => rfl) (by decide) (by decide) (Nat.le_of_ble_eq_true rfl) ⟨Nat.le_trans (Nat.le_of_ble_eq_true rfl) hcs.1, Nat.le_trans (Nat.le_of_ble_eq_true rfl) hcs.2⟩ dX7_init_36 ?_
  refine b_putF F hini (c := 7) (C := RX7) (T := TX7) (N := 13) (fs := [.int (1 : Int32), .int 0, .int 0, .int 0, .int 0, .int 0, .int 0, .int 0, zr G 44, zr G 45, zr G 46, .null, .null]) (ty := tyX7 11) tyX7 tyX7_ok nmX7 rfl uw_7 11 (by decide) rfl rfl (tyX7_ok 11 (by decide)) rfl rfl (Nat.le_of_ble_eq_true rfl) rfl (Nat.le_of_ble_eq_true rfl) wF_X7_25 dX7_init_38 ?_
  refine b_aload_n F dX7_init_41 rfl 0 rfl ?_
  refine b_bipush (y := (16 : Int32)) F dX7_init_42 rfl ?_
  refine b_newa F (atype := .int) (ty := .int) (a0 := (16, (.inl (fun _ => 0)))) 0 rfl rfl (by intro C q; cases q) zac_int (fun _ => rfl) (by decide) (by decide) (Nat.le_of_ble_eq_true rfl) ⟨Nat.le_trans (Nat.le_of_ble_eq_true rfl) hcs.1, Nat.le_trans (Nat.le_of_ble_eq_true rfl) hcs.2⟩ dX7_init_44 ?_
  refine b_putF F hini (c := 7) (C := RX7) (T := TX7) (N := 13) (fs := [.int (1 : Int32), .int 0, .int 0, .int 0, .int 0, .int 0, .int 0, .int 0, zr G 44, zr G 45, zr G 46, zr G 47, .null]) (ty := tyX7 12) tyX7 tyX7_ok nmX7 rfl uw_7 12 (by decide) rfl rfl (tyX7_ok 12 (by decide)) rfl rfl (Nat.le_of_ble_eq_true rfl) rfl (Nat.le_of_ble_eq_true rfl) wF_X7_28 dX7_init_46 ?_
  exact b_ret F hr hk (fun _ _ => rfl) dX7_init_49

theorem zcl_X9_60 : Cond.classLink RX9 60 RX2 ∈ zTbl := zTbl_of (zin_2 (List.mem_of_getElem? (i := 15) (by decide +kernel))) rfl
theorem zin_RX2 : Cond.instantiable RX2 3 ∈ zTbl := zTbl_of (zin_2 (List.mem_of_getElem? (i := 16) (by decide +kernel))) rfl
theorem zol_X2_3 : Cond.methodLink RX2 3 objectInit ∈ zTbl := zTbl_of (zin_2 (List.mem_of_getElem? (i := 20) (by decide +kernel))) rfl
theorem dX2_init_0 : decode cX2_init 0 = .ok (.aload_n 0, 1) := by decide +kernel
theorem dX2_init_1 : decode cX2_init 1 = .ok (.invokespecial 3, 3) := by decide +kernel
theorem dX2_init_4 : decode cX2_init 4 = .ok (.aload_n 0, 1) := by decide +kernel
theorem dX2_init_5 : decode cX2_init 5 = .ok (.bipush 16, 2) := by decide +kernel
theorem dX2_init_7 : decode cX2_init 7 = .ok (.newarray .int, 2) := by decide +kernel
theorem dX2_init_9 : decode cX2_init 9 = .ok (.putfield 9, 3) := by decide +kernel
theorem dX2_init_12 : decode cX2_init 12 = .ok (.aload_n 0, 1) := by decide +kernel
theorem dX2_init_13 : decode cX2_init 13 = .ok (.aload_n 1, 1) := by decide +kernel
theorem dX2_init_14 : decode cX2_init 14 = .ok (.putfield 15, 3) := by decide +kernel
theorem dX2_init_17 : decode cX2_init 17 = .ok (.aload_n 0, 1) := by decide +kernel
theorem dX2_init_18 : decode cX2_init 18 = .ok (.aload_n 2, 1) := by decide +kernel
theorem dX2_init_19 : decode cX2_init 19 = .ok (.putfield 19, 3) := by decide +kernel
theorem dX2_init_22 : decode cX2_init 22 = .ok (.return_, 1) := by decide +kernel
def ceX2_init_50_3_23 (G : zG) (ce : Nat → va_E) : Nat → va_E := (bup (bup (bup (bup ce 51 (.inl (G.2.1 0, 16, (.inl (fun _ => 0))))) 50 (.inr (2, [.null, .null, .null].set 2 (zr G 51)))) 50 (.inr (2, [.null, .null, zr G 51].set 0 (zr G 3)))) 50 (.inr (2, [zr G 3, .null, zr G 51].set 1 (zr G 23))))
set_option maxRecDepth 20000 in
set_option maxHeartbeats 2000000 in
theorem kBX2_init_50_3_23 (l : Launch) (G : zG) (ce : Nat → va_E) (hc50 : ce 50 = .inr (2, [.null, .null, .null])) : zBM l yX2_init cX2_init 3 none 1 80 1 16 [zr G 50, zr G 3, zr G 23] G 51 ce 52 (ceX2_init_50_3_23 G ce) := by
  refine zBM_of (own := RX2) (by decide) rfl (Nat.le_of_ble_eq_true rfl) (fun x hl F hr hk hcs hini => ?_)
  subst hl
  refine b_ls [(0, zr G 50), (1, zr G 3), (2, zr G 23)] [0, 1, 2] rfl ?_
  refine b_aload_n F dX2_init_0 rfl 0 rfl ?_
  refine b_obj F zol_X2_3 zob_2 zob_3 (Nat.le_of_ble_eq_true rfl) (Nat.le_of_ble_eq_true rfl) (Nat.le_of_ble_eq_true rfl) dX2_init_1 ?_
  refine b_aload_n F dX2_init_4 rfl 0 rfl ?_
  refine b_bipush (y := (16 : Int32)) F dX2_init_5 rfl ?_
  refine b_newa F (atype := .int) (ty := .int) (a0 := (16, (.inl (fun _ => 0)))) 0 rfl rfl (by intro C q; cases q) zac_int (fun _ => rfl) (by decide) (by decide) (Nat.le_of_ble_eq_true rfl) ⟨Nat.le_trans (Nat.le_of_ble_eq_true rfl) hcs.1, Nat.le_trans (Nat.le_of_ble_eq_true rfl) hcs.2⟩ dX2_init_7 ?_
  refine b_putF F hini (c := 2) (C := RX2) (T := TX2) (N := 3) (fs := [.null, .null, .null]) (ty := tyX2 2) tyX2 tyX2_ok nmX2 rfl uw_2 2 (by decide) rfl rfl (tyX2_ok 2 (by decide)) rfl rfl (Nat.le_of_ble_eq_true rfl) hc50 (Nat.le_of_ble_eq_true rfl) wF_X2_9 dX2_init_9 ?_
  refine b_aload_n F dX2_init_12 rfl 0 rfl ?_
  refine b_aload_n F dX2_init_13 rfl 1 rfl ?_
  refine b_putF F hini (c := 2) (C := RX2) (T := TX2) (N := 3) (fs := [.null, .null, zr G 51]) (ty := tyX2 0) tyX2 tyX2_ok nmX2 rfl uw_2 0 (by decide) rfl rfl (tyX2_ok 0 (by decide)) rfl rfl (Nat.le_of_ble_eq_true rfl) rfl (Nat.le_of_ble_eq_true rfl) wF_X2_15 dX2_init_14 ?_
  refine b_aload_n F dX2_init_17 rfl 0 rfl ?_
  refine b_aload_n F dX2_init_18 rfl 2 rfl ?_
  refine b_putF F hini (c := 2) (C := RX2) (T := TX2) (N := 3) (fs := [zr G 3, .null, zr G 51]) (ty := tyX2 1) tyX2 tyX2_ok nmX2 rfl uw_2 1 (by decide) rfl rfl (tyX2_ok 1 (by decide)) rfl rfl (Nat.le_of_ble_eq_true rfl) rfl (Nat.le_of_ble_eq_true rfl) wF_X2_19 dX2_init_19 ?_
  exact b_ret F hr hk (fun _ _ => rfl) dX2_init_22

theorem zcl_X9_69 : Cond.classLink RX9 69 RX4 ∈ zTbl := zTbl_of (zin_2 (List.mem_of_getElem? (i := 32) (by decide +kernel))) rfl
theorem zin_RX4 : Cond.instantiable RX4 13 ∈ zTbl := zTbl_of (zin_2 (List.mem_of_getElem? (i := 33) (by decide +kernel))) rfl
theorem zol_X4_3 : Cond.methodLink RX4 3 objectInit ∈ zTbl := zTbl_of (zin_2 (List.mem_of_getElem? (i := 37) (by decide +kernel))) rfl
theorem zcl_X4_9 : Cond.classLink RX4 9 RX7 ∈ zTbl := zTbl_of (zin_2 (List.mem_of_getElem? (i := 38) (by decide +kernel))) rfl
def ceX7_init_53 (G : zG) (ce : Nat → va_E) : Nat → va_E := (bup (bup (bup (bup (bup (bup (bup (bup (bup (bup (bup ce 53 (.inr (7, [.int 0, .int 0, .int 0, .int 0, .int 0, .int 0, .int 0, .int 0, .null, .null, .null, .null, .null].set 0 (.int (1 : Int32))))) 54 (.inl (G.2.1 0, 13, (.inl (fun _ => 0))))) 53 (.inr (7, [.int (1 : Int32), .int 0, .int 0, .int 0, .int 0, .int 0, .int 0, .int 0, .null, .null, .null, .null, .null].set 8 (zr G 54)))) 55 (.inl (G.2.1 0, 16, (.inl (fun _ => 0))))) 53 (.inr (7, [.int (1 : Int32), .int 0, .int 0, .int 0, .int 0, .int 0, .int 0, .int 0, zr G 54, .null, .null, .null, .null].set 9 (zr G 55)))) 56 (.inl (G.2.1 0, 16, (.inl (fun _ => 0))))) 53 (.inr (7, [.int (1 : Int32), .int 0, .int 0, .int 0, .int 0, .int 0, .int 0, .int 0, zr G 54, zr G 55, .null, .null, .null].set 10 (zr G 56)))) 57 (.inl (G.2.1 0, 16, (.inl (fun _ => 0))))) 53 (.inr (7, [.int (1 : Int32), .int 0, .int 0, .int 0, .int 0, .int 0, .int 0, .int 0, zr G 54, zr G 55, zr G 56, .null, .null].set 11 (zr G 57)))) 58 (.inl (G.2.1 0, 16, (.inl (fun _ => 0))))) 53 (.inr (7, [.int (1 : Int32), .int 0, .int 0, .int 0, .int 0, .int 0, .int 0, .int 0, zr G 54, zr G 55, zr G 56, zr G 57, .null].set 12 (zr G 58))))
set_option maxRecDepth 20000 in
set_option maxHeartbeats 2000000 in
theorem kBX7_init_53 (l : Launch) (G : zG) (ce : Nat → va_E) (hc53 : ce 53 = .inr (7, [.int 0, .int 0, .int 0, .int 0, .int 0, .int 0, .int 0, .int 0, .null, .null, .null, .null, .null])) : zBM l yX7_init cX7_init 1 none 1 80 5 77 [zr G 53] G 54 ce 59 (ceX7_init_53 G ce) := by
  refine zBM_of (own := RX7) (by decide) rfl (Nat.le_of_ble_eq_true rfl) (fun x hl F hr hk hcs hini => ?_)
  subst hl
  refine b_ls [(0, zr G 53)] [0] rfl ?_
  refine b_aload_n F dX7_init_0 rfl 0 rfl ?_
  refine b_obj F zol_X7_3 zob_2 zob_3 (Nat.le_of_ble_eq_true rfl) (Nat.le_of_ble_eq_true rfl) (Nat.le_of_ble_eq_true rfl) dX7_init_1 ?_
  refine b_aload_n F dX7_init_4 rfl 0 rfl ?_
  refine b_iconst (y := (1 : Int32)) F dX7_init_5 rfl ?_
  refine b_put F (c := 7) (C := RX7) (T := TX7) (N := 13) (fs := [.int 0, .int 0, .int 0, .int 0, .int 0, .int 0, .int 0, .int 0, .null, .null, .null, .null, .null]) (ty := tyX7 0) tyX7 tyX7_ok nmX7 rfl uw_7 0 (by decide) rfl (tyX7_ok 0 (by decide)) rfl rfl (Nat.le_of_ble_eq_true rfl) hc53 (Nat.le_of_ble_eq_true rfl) wF_X7_9 dX7_init_6 ?_
  refine b_aload_n F dX7_init_9 rfl 0 rfl ?_
  refine b_bipush (y := (13 : Int32)) F dX7_init_10 rfl ?_
  refine b_newa F (atype := .int) (ty := .int) (a0 := (13, (.inl (fun _ => 0)))) 0 rfl rfl (by intro C q; cases q) zac_int (fun _ => rfl) (by decide) (by decide) (Nat.le_of_ble_eq_true rfl) ⟨Nat.le_trans (Nat.le_of_ble_eq_true rfl) hcs.1, Nat.le_trans (Nat.le_of_ble_eq_true rfl) hcs.2⟩ dX7_init_12 ?_
  refine b_putF F hini (c := 7) (C := RX7) (T := TX7) (N := 13) (fs := [.int (1 : Int32), .int 0, .int 0, .int 0, .int 0, .int 0, .int 0, .int 0, .null, .null, .null, .null, .null]) (ty := tyX7 8) tyX7 tyX7_ok nmX7 rfl uw_7 8 (by decide) rfl rfl (tyX7_ok 8 (by decide)) rfl rfl (Nat.le_of_ble_eq_true rfl) rfl (Nat.le_of_ble_eq_true rfl) wF_X7_15 dX7_init_14 ?_
  refine b_aload_n F dX7_init_17 rfl 0 rfl ?_
  refine b_bipush (y := (16 : Int32)) F dX7_init_18 rfl ?_
  refine b_newa F (atype := .int) (ty := .int) (a0 := (16, (.inl (fun _ => 0)))) 0 rfl rfl (by intro C q; cases q) zac_int (fun _ => rfl) (by decide) (by decide) (Nat.le_of_ble_eq_true rfl) ⟨Nat.le_trans (Nat.le_of_ble_eq_true rfl) hcs.1, Nat.le_trans (Nat.le_of_ble_eq_true rfl) hcs.2⟩ dX7_init_20 ?_
  refine b_putF F hini (c := 7) (C := RX7) (T := TX7) (N := 13) (fs := [.int (1 : Int32), .int 0, .int 0, .int 0, .int 0, .int 0, .int 0, .int 0, zr G 54, .null, .null, .null, .null]) (ty := tyX7 9) tyX7 tyX7_ok nmX7 rfl uw_7 9 (by decide) rfl rfl (tyX7_ok 9 (by decide)) rfl rfl (Nat.le_of_ble_eq_true rfl) rfl (Nat.le_of_ble_eq_true rfl) wF_X7_19 dX7_init_22 ?_
  refine b_aload_n F dX7_init_25 rfl 0 rfl ?_
  refine b_bipush (y := (16 : Int32)) F dX7_init_26 rfl ?_
  refine b_newa F (atype := .int) (ty := .int) (a0 := (16, (.inl (fun _ => 0)))) 0 rfl rfl (by intro C q; cases q) zac_int (fun _ => rfl) (by decide) (by decide) (Nat.le_of_ble_eq_true rfl) ⟨Nat.le_trans (Nat.le_of_ble_eq_true rfl) hcs.1, Nat.le_trans (Nat.le_of_ble_eq_true rfl) hcs.2⟩ dX7_init_28 ?_
  refine b_putF F hini (c := 7) (C := RX7) (T := TX7) (N := 13) (fs := [.int (1 : Int32), .int 0, .int 0, .int 0, .int 0, .int 0, .int 0, .int 0, zr G 54, zr G 55, .null, .null, .null]) (ty := tyX7 10) tyX7 tyX7_ok nmX7 rfl uw_7 10 (by decide) rfl rfl (tyX7_ok 10 (by decide)) rfl rfl (Nat.le_of_ble_eq_true rfl) rfl (Nat.le_of_ble_eq_true rfl) wF_X7_22 dX7_init_30 ?_
  refine b_aload_n F dX7_init_33 rfl 0 rfl ?_
  refine b_bipush (y := (16 : Int32)) F dX7_init_34 rfl ?_
  refine b_newa F (atype := .int) (ty := .int) (a0 := (16, (.inl (fun _ => 0)))) 0 rfl rfl (by intro C q; cases q) zac_int (fun _ => rfl) (by decide) (by decide) (Nat.le_of_ble_eq_true rfl) ⟨Nat.le_trans (Nat.le_of_ble_eq_true rfl) hcs.1, Nat.le_trans (Nat.le_of_ble_eq_true rfl) hcs.2⟩ dX7_init_36 ?_
  refine b_putF F hini (c := 7) (C := RX7) (T := TX7) (N := 13) (fs := [.int (1 : Int32), .int 0, .int 0, .int 0, .int 0, .int 0, .int 0, .int 0, zr G 54, zr G 55, zr G 56, .null, .null]) (ty := tyX7 11) tyX7 tyX7_ok nmX7 rfl uw_7 11 (by decide) rfl rfl (tyX7_ok 11 (by decide)) rfl rfl (Nat.le_of_ble_eq_true rfl) rfl (Nat.le_of_ble_eq_true rfl) wF_X7_25 dX7_init_38 ?_
  refine b_aload_n F dX7_init_41 rfl 0 rfl ?_
  refine b_bipush (y := (16 : Int32)) F dX7_init_42 rfl ?_
  refine b_newa F (atype := .int) (ty := .int) (a0 := (16, (.inl (fun _ => 0)))) 0 rfl rfl (by intro C q; cases q) zac_int (fun _ => rfl) (by decide) (by decide) (Nat.le_of_ble_eq_true rfl) ⟨Nat.le_trans (Nat.le_of_ble_eq_true rfl) hcs.1, Nat.le_trans (Nat.le_of_ble_eq_true rfl) hcs.2⟩ dX7_init_44 ?_
  refine b_putF F hini (c := 7) (C := RX7) (T := TX7) (N := 13) (fs := [.int (1 : Int32), .int 0, .int 0, .int 0, .int 0, .int 0, .int 0, .int 0, zr G 54, zr G 55, zr G 56, zr G 57, .null]) (ty := tyX7 12) tyX7 tyX7_ok nmX7 rfl uw_7 12 (by decide) rfl rfl (tyX7_ok 12 (by decide)) rfl rfl (Nat.le_of_ble_eq_true rfl) rfl (Nat.le_of_ble_eq_true rfl) wF_X7_28 dX7_init_46 ?_
  exact b_ret F hr hk (fun _ _ => rfl) dX7_init_49

def ceX7_init_63 (G : zG) (ce : Nat → va_E) : Nat → va_E := (bup (bup (bup (bup (bup (bup (bup (bup (bup (bup (bup ce 63 (.inr (7, [.int 0, .int 0, .int 0, .int 0, .int 0, .int 0, .int 0, .int 0, .null, .null, .null, .null, .null].set 0 (.int (1 : Int32))))) 64 (.inl (G.2.1 0, 13, (.inl (fun _ => 0))))) 63 (.inr (7, [.int (1 : Int32), .int 0, .int 0, .int 0, .int 0, .int 0, .int 0, .int 0, .null, .null, .null, .null, .null].set 8 (zr G 64)))) 65 (.inl (G.2.1 0, 16, (.inl (fun _ => 0))))) 63 (.inr (7, [.int (1 : Int32), .int 0, .int 0, .int 0, .int 0, .int 0, .int 0, .int 0, zr G 64, .null, .null, .null, .null].set 9 (zr G 65)))) 66 (.inl (G.2.1 0, 16, (.inl (fun _ => 0))))) 63 (.inr (7, [.int (1 : Int32), .int 0, .int 0, .int 0, .int 0, .int 0, .int 0, .int 0, zr G 64, zr G 65, .null, .null, .null].set 10 (zr G 66)))) 67 (.inl (G.2.1 0, 16, (.inl (fun _ => 0))))) 63 (.inr (7, [.int (1 : Int32), .int 0, .int 0, .int 0, .int 0, .int 0, .int 0, .int 0, zr G 64, zr G 65, zr G 66, .null, .null].set 11 (zr G 67)))) 68 (.inl (G.2.1 0, 16, (.inl (fun _ => 0))))) 63 (.inr (7, [.int (1 : Int32), .int 0, .int 0, .int 0, .int 0, .int 0, .int 0, .int 0, zr G 64, zr G 65, zr G 66, zr G 67, .null].set 12 (zr G 68))))
set_option maxRecDepth 20000 in
set_option maxHeartbeats 2000000 in
theorem kBX7_init_63 (l : Launch) (G : zG) (ce : Nat → va_E) (hc63 : ce 63 = .inr (7, [.int 0, .int 0, .int 0, .int 0, .int 0, .int 0, .int 0, .int 0, .null, .null, .null, .null, .null])) : zBM l yX7_init cX7_init 1 none 1 80 5 77 [zr G 63] G 64 ce 69 (ceX7_init_63 G ce) := by
  refine zBM_of (own := RX7) (by decide) rfl (Nat.le_of_ble_eq_true rfl) (fun x hl F hr hk hcs hini => ?_)
  subst hl
  refine b_ls [(0, zr G 63)] [0] rfl ?_
  refine b_aload_n F dX7_init_0 rfl 0 rfl ?_
  refine b_obj F zol_X7_3 zob_2 zob_3 (Nat.le_of_ble_eq_true rfl) (Nat.le_of_ble_eq_true rfl) (Nat.le_of_ble_eq_true rfl) dX7_init_1 ?_
  refine b_aload_n F dX7_init_4 rfl 0 rfl ?_
  refine b_iconst (y := (1 : Int32)) F dX7_init_5 rfl ?_
  refine b_put F (c := 7) (C := RX7) (T := TX7) (N := 13) (fs := [.int 0, .int 0, .int 0, .int 0, .int 0, .int 0, .int 0, .int 0, .null, .null, .null, .null, .null]) (ty := tyX7 0) tyX7 tyX7_ok nmX7 rfl uw_7 0 (by decide) rfl (tyX7_ok 0 (by decide)) rfl rfl (Nat.le_of_ble_eq_true rfl) hc63 (Nat.le_of_ble_eq_true rfl) wF_X7_9 dX7_init_6 ?_
  refine b_aload_n F dX7_init_9 rfl 0 rfl ?_
  refine b_bipush (y := (13 : Int32)) F dX7_init_10 rfl ?_
  refine b_newa F (atype := .int) (ty := .int) (a0 := (13, (.inl (fun _ => 0)))) 0 rfl rfl (by intro C q; cases q) zac_int (fun _ => rfl) (by decide) (by decide) (Nat.le_of_ble_eq_true rfl) ⟨Nat.le_trans (Nat.le_of_ble_eq_true rfl) hcs.1, Nat.le_trans (Nat.le_of_ble_eq_true rfl) hcs.2⟩ dX7_init_12 ?_
  refine b_putF F hini (c := 7) (C := RX7) (T := TX7) (N := 13) (fs := [.int (1 : Int32), .int 0, .int 0, .int 0, .int 0, .int 0, .int 0, .int 0, .null, .null, .null, .null, .null]) (ty := tyX7 8) tyX7 tyX7_ok nmX7 rfl uw_7 8 (by decide) rfl rfl (tyX7_ok 8 (by decide)) rfl rfl (Nat.le_of_ble_eq_true rfl) rfl (Nat.le_of_ble_eq_true rfl) wF_X7_15 dX7_init_14 ?_
  refine b_aload_n F dX7_init_17 rfl 0 rfl ?_
  refine b_bipush (y := (16 : Int32)) F dX7_init_18 rfl ?_
  refine b_newa F (atype := .int) (ty := .int) (a0 := (16, (.inl (fun _ => 0)))) 0 rfl rfl (by intro C q; cases q) zac_int (fun _ => rfl) (by decide) (by decide) (Nat.le_of_ble_eq_true rfl) ⟨Nat.le_trans (Nat.le_of_ble_eq_true rfl) hcs.1, Nat.le_trans (Nat.le_of_ble_eq_true rfl) hcs.2⟩ dX7_init_20 ?_
  refine b_putF F hini (c := 7) (C := RX7) (T := TX7) (N := 13) (fs := [.int (1 : Int32), .int 0, .int 0, .int 0, .int 0, .int 0, .int 0, .int 0, zr G 64, .null, .null, .null, .null]) (ty := tyX7 9) tyX7 tyX7_ok nmX7 rfl uw_7 9 (by decide) rfl rfl (tyX7_ok 9 (by decide)) rfl rfl (Nat.le_of_ble_eq_true rfl) rfl (Nat.le_of_ble_eq_true rfl) wF_X7_19 dX7_init_22 ?_
  refine b_aload_n F dX7_init_25 rfl 0 rfl ?_
  refine b_bipush (y := (16 : Int32)) F dX7_init_26 rfl ?_
  refine b_newa F (atype := .int) (ty := .int) (a0 := (16, (.inl (fun _ => 0)))) 0 rfl rfl (by intro C q; cases q) zac_int (fun _ => rfl) (by decide) (by decide) (Nat.le_of_ble_eq_true rfl) ⟨Nat.le_trans (Nat.le_of_ble_eq_true rfl) hcs.1, Nat.le_trans (Nat.le_of_ble_eq_true rfl) hcs.2⟩ dX7_init_28 ?_
  refine b_putF F hini (c := 7) (C := RX7) (T := TX7) (N := 13) (fs := [.int (1 : Int32), .int 0, .int 0, .int 0, .int 0, .int 0, .int 0, .int 0, zr G 64, zr G 65, .null, .null, .null]) (ty := tyX7 10) tyX7 tyX7_ok nmX7 rfl uw_7 10 (by decide) rfl rfl (tyX7_ok 10 (by decide)) rfl rfl (Nat.le_of_ble_eq_true rfl) rfl (Nat.le_of_ble_eq_true rfl) wF_X7_22 dX7_init_30 ?_
  refine b_aload_n F dX7_init_33 rfl 0 rfl ?_
  refine b_bipush (y := (16 : Int32)) F dX7_init_34 rfl ?_
  refine b_newa F (atype := .int) (ty := .int) (a0 := (16, (.inl (fun _ => 0)))) 0 rfl rfl (by intro C q; cases q) zac_int (fun _ => rfl) (by decide) (by decide) (Nat.le_of_ble_eq_true rfl) ⟨Nat.le_trans (Nat.le_of_ble_eq_true rfl) hcs.1, Nat.le_trans (Nat.le_of_ble_eq_true rfl) hcs.2⟩ dX7_init_36 ?_
  refine b_putF F hini (c := 7) (C := RX7) (T := TX7) (N := 13) (fs := [.int (1 : Int32), .int 0, .int 0, .int 0, .int 0, .int 0, .int 0, .int 0, zr G 64, zr G 65, zr G 66, .null, .null]) (ty := tyX7 11) tyX7 tyX7_ok nmX7 rfl uw_7 11 (by decide) rfl rfl (tyX7_ok 11 (by decide)) rfl rfl (Nat.le_of_ble_eq_true rfl) rfl (Nat.le_of_ble_eq_true rfl) wF_X7_25 dX7_init_38 ?_
  refine b_aload_n F dX7_init_41 rfl 0 rfl ?_
  refine b_bipush (y := (16 : Int32)) F dX7_init_42 rfl ?_
  refine b_newa F (atype := .int) (ty := .int) (a0 := (16, (.inl (fun _ => 0)))) 0 rfl rfl (by intro C q; cases q) zac_int (fun _ => rfl) (by decide) (by decide) (Nat.le_of_ble_eq_true rfl) ⟨Nat.le_trans (Nat.le_of_ble_eq_true rfl) hcs.1, Nat.le_trans (Nat.le_of_ble_eq_true rfl) hcs.2⟩ dX7_init_44 ?_
  refine b_putF F hini (c := 7) (C := RX7) (T := TX7) (N := 13) (fs := [.int (1 : Int32), .int 0, .int 0, .int 0, .int 0, .int 0, .int 0, .int 0, zr G 64, zr G 65, zr G 66, zr G 67, .null]) (ty := tyX7 12) tyX7 tyX7_ok nmX7 rfl uw_7 12 (by decide) rfl rfl (tyX7_ok 12 (by decide)) rfl rfl (Nat.le_of_ble_eq_true rfl) rfl (Nat.le_of_ble_eq_true rfl) wF_X7_28 dX7_init_46 ?_
  exact b_ret F hr hk (fun _ _ => rfl) dX7_init_49

def ceX7_init_69 (G : zG) (ce : Nat → va_E) : Nat → va_E := (bup (bup (bup (bup (bup (bup (bup (bup (bup (bup (bup ce 69 (.inr (7, [.int 0, .int 0, .int 0, .int 0, .int 0, .int 0, .int 0, .int 0, .null, .null, .null, .null, .null].set 0 (.int (1 : Int32))))) 70 (.inl (G.2.1 0, 13, (.inl (fun _ => 0))))) 69 (.inr (7, [.int (1 : Int32), .int 0, .int 0, .int 0, .int 0, .int 0, .int 0, .int 0, .null, .null, .null, .null, .null].set 8 (zr G 70)))) 71 (.inl (G.2.1 0, 16, (.inl (fun _ => 0))))) 69 (.inr (7, [.int (1 : Int32), .int 0, .int 0, .int 0, .int 0, .int 0, .int 0, .int 0, zr G 70, .null, .null, .null, .null].set 9 (zr G 71)))) 72 (.inl (G.2.1 0, 16, (.inl (fun _ => 0))))) 69 (.inr (7, [.int (1 : Int32), .int 0, .int 0, .int 0, .int 0, .int 0, .int 0, .int 0, zr G 70, zr G 71, .null, .null, .null].set 10 (zr G 72)))) 73 (.inl (G.2.1 0, 16, (.inl (fun _ => 0))))) 69 (.inr (7, [.int (1 : Int32), .int 0, .int 0, .int 0, .int 0, .int 0, .int 0, .int 0, zr G 70, zr G 71, zr G 72, .null, .null].set 11 (zr G 73)))) 74 (.inl (G.2.1 0, 16, (.inl (fun _ => 0))))) 69 (.inr (7, [.int (1 : Int32), .int 0, .int 0, .int 0, .int 0, .int 0, .int 0, .int 0, zr G 70, zr G 71, zr G 72, zr G 73, .null].set 12 (zr G 74))))
set_option maxRecDepth 20000 in
set_option maxHeartbeats 2000000 in
theorem kBX7_init_69 (l : Launch) (G : zG) (ce : Nat → va_E) (hc69 : ce 69 = .inr (7, [.int 0, .int 0, .int 0, .int 0, .int 0, .int 0, .int 0, .int 0, .null, .null, .null, .null, .null])) : zBM l yX7_init cX7_init 1 none 1 80 5 77 [zr G 69] G 70 ce 75 (ceX7_init_69 G ce) := by
  refine zBM_of (own := RX7) (by decide) rfl (Nat.le_of_ble_eq_true rfl) (fun x hl F hr hk hcs hini => ?_)
  subst hl
  refine b_ls [(0, zr G 69)] [0] rfl ?_
  refine b_aload_n F dX7_init_0 rfl 0 rfl ?_
  refine b_obj F zol_X7_3 zob_2 zob_3 (Nat.le_of_ble_eq_true rfl) (Nat.le_of_ble_eq_true rfl) (Nat.le_of_ble_eq_true rfl) dX7_init_1 ?_
  refine b_aload_n F dX7_init_4 rfl 0 rfl ?_
  refine b_iconst (y := (1 : Int32)) F dX7_init_5 rfl ?_
  refine b_put F (c := 7) (C := RX7) (T := TX7) (N := 13) (fs := [.int 0, .int 0, .int 0, .int 0, .int 0, .int 0, .int 0, .int 0, .null, .null, .null, .null, .null]) (ty := tyX7 0) tyX7 tyX7_ok nmX7 rfl uw_7 0 (by decide) rfl (tyX7_ok 0 (by decide)) rfl rfl (Nat.le_of_ble_eq_true rfl) hc69 (Nat.le_of_ble_eq_true rfl) wF_X7_9 dX7_init_6 ?_
  refine b_aload_n F dX7_init_9 rfl 0 rfl ?_
  refine b_bipush (y := (13 : Int32)) F dX7_init_10 rfl ?_
  refine b_newa F (atype := .int) (ty := .int) (a0 := (13, (.inl (fun _ => 0)))) 0 rfl rfl (by intro C q; cases q) zac_int (fun _ => rfl) (by decide) (by decide) (Nat.le_of_ble_eq_true rfl) ⟨Nat.le_trans (Nat.le_of_ble_eq_true rfl) hcs.1, Nat.le_trans (Nat.le_of_ble_eq_true rfl) hcs.2⟩ dX7_init_12 ?_
  refine b_putF F hini (c := 7) (C := RX7) (T := TX7) (N := 13) (fs := [.int (1 : Int32), .int 0, .int 0, .int 0, .int 0, .int 0, .int 0, .int 0, .null, .null, .null, .null, .null]) (ty := tyX7 8) tyX7 tyX7_ok nmX7 rfl uw_7 8 (by decide) rfl rfl (tyX7_ok 8 (by decide)) rfl rfl (Nat.le_of_ble_eq_true rfl) rfl (Nat.le_of_ble_eq_true rfl) wF_X7_15 dX7_init_14 ?_
  refine b_aload_n F dX7_init_17 rfl 0 rfl ?_
  refine b_bipush (y := (16 : Int32)) F dX7_init_18 rfl ?_
  refine b_newa F (atype := .int) (ty := .int) (a0 := (16, (.inl (fun _ => 0)))) 0 rfl rfl (by intro C q; cases q) zac_int (fun _ => rfl) (by decide) (by decide) (Nat.le_of_ble_eq_true rfl) ⟨Nat.le_trans (Nat.le_of_ble_eq_true rfl) hcs.1, Nat.le_trans (Nat.le_of_ble_eq_true rfl) hcs.2⟩ dX7_init_20 ?_
  refine b_putF F hini (c := 7) (C := RX7) (T := TX7) (N := 13) (fs := [.int (1 : Int32), .int 0, .int 0, .int 0, .int 0, .int 0, .int 0, .int 0, zr G 70, .null, .null, .null, .null]) (ty := tyX7 9) tyX7 tyX7_ok nmX7 rfl uw_7 9 (by decide) rfl rfl (tyX7_ok 9 (by decide)) rfl rfl (Nat.le_of_ble_eq_true rfl) rfl (Nat.le_of_ble_eq_true rfl) wF_X7_19 dX7_init_22 ?_
  refine b_aload_n F dX7_init_25 rfl 0 rfl ?_
  refine b_bipush (y := (16 : Int32)) F dX7_init_26 rfl ?_
  refine b_newa F (atype := .int) (ty := .int) (a0 := (16, (.inl (fun _ => 0)))) 0 rfl rfl (by intro C q; cases q) zac_int (fun _ => rfl) (by decide) (by decide) (Nat.le_of_ble_eq_true rfl) ⟨Nat.le_trans (Nat.le_of_ble_eq_true rfl) hcs.1, Nat.le_trans (Nat.le_of_ble_eq_true rfl) hcs.2⟩ dX7_init_28 ?_
  refine b_putF F hini (c := 7) (C := RX7) (T := TX7) (N := 13) (fs := [.int (1 : Int32), .int 0, .int 0, .int 0, .int 0, .int 0, .int 0, .int 0, zr G 70, zr G 71, .null, .null, .null]) (ty := tyX7 10) tyX7 tyX7_ok nmX7 rfl uw_7 10 (by decide) rfl rfl (tyX7_ok 10 (by decide)) rfl rfl (Nat.le_of_ble_eq_true rfl) rfl (Nat.le_of_ble_eq_true rfl) wF_X7_22 dX7_init_30 ?_
  refine b_aload_n F dX7_init_33 rfl 0 rfl ?_
  refine b_bipush (y := (16 : Int32)) F dX7_init_34 rfl ?_
  refine b_newa F (atype := .int) (ty := .int) (a0 := (16, (.inl (fun _ => 0)))) 0 rfl rfl (by intro C q; cases q) zac_int (fun _ => rfl) (by decide) (by decide) (Nat.le_of_ble_eq_true rfl) ⟨Nat.le_trans (Nat.le_of_ble_eq_true rfl) hcs.1, Nat.le_trans (Nat.le_of_ble_eq_true rfl) hcs.2⟩ dX7_init_36 ?_
  refine b_putF F hini (c := 7) (C := RX7) (T := TX7) (N := 13) (fs := [.int (1 : Int32), .int 0, .int 0, .int 0, .int 0, .int 0, .int 0, .int 0, zr G 70, zr G 71, zr G 72, .null, .null]) (ty := tyX7 11) tyX7 tyX7_ok nmX7 rfl uw_7 11 (by decide) rfl rfl (tyX7_ok 11 (by decide)) rfl rfl (Nat.le_of_ble_eq_true rfl) rfl (Nat.le_of_ble_eq_true rfl) wF_X7_25 dX7_init_38 ?_
  refine b_aload_n F dX7_init_41 rfl 0 rfl ?_
  refine b_bipush (y := (16 : Int32)) F dX7_init_42 rfl ?_
  refine b_newa F (atype := .int) (ty := .int) (a0 := (16, (.inl (fun _ => 0)))) 0 rfl rfl (by intro C q; cases q) zac_int (fun _ => rfl) (by decide) (by decide) (Nat.le_of_ble_eq_true rfl) ⟨Nat.le_trans (Nat.le_of_ble_eq_true rfl) hcs.1, Nat.le_trans (Nat.le_of_ble_eq_true rfl) hcs.2⟩ dX7_init_44 ?_
  refine b_putF F hini (c := 7) (C := RX7) (T := TX7) (N := 13) (fs := [.int (1 : Int32), .int 0, .int 0, .int 0, .int 0, .int 0, .int 0, .int 0, zr G 70, zr G 71, zr G 72, zr G 73, .null]) (ty := tyX7 12) tyX7 tyX7_ok nmX7 rfl uw_7 12 (by decide) rfl rfl (tyX7_ok 12 (by decide)) rfl rfl (Nat.le_of_ble_eq_true rfl) rfl (Nat.le_of_ble_eq_true rfl) wF_X7_28 dX7_init_46 ?_
  exact b_ret F hr hk (fun _ _ => rfl) dX7_init_49

def ceX7_init_75 (G : zG) (ce : Nat → va_E) : Nat → va_E := (bup (bup (bup (bup (bup (bup (bup (bup (bup (bup (bup ce 75 (.inr (7, [.int 0, .int 0, .int 0, .int 0, .int 0, .int 0, .int 0, .int 0, .null, .null, .null, .null, .null].set 0 (.int (1 : Int32))))) 76 (.inl (G.2.1 0, 13, (.inl (fun _ => 0))))) 75 (.inr (7, [.int (1 : Int32), .int 0, .int 0, .int 0, .int 0, .int 0, .int 0, .int 0, .null, .null, .null, .null, .null].set 8 (zr G 76)))) 77 (.inl (G.2.1 0, 16, (.inl (fun _ => 0))))) 75 (.inr (7, [.int (1 : Int32), .int 0, .int 0, .int 0, .int 0, .int 0, .int 0, .int 0, zr G 76, .null, .null, .null, .null].set 9 (zr G 77)))) 78 (.inl (G.2.1 0, 16, (.inl (fun _ => 0))))) 75 (.inr (7, [.int (1 : Int32), .int 0, .int 0, .int 0, .int 0, .int 0, .int 0, .int 0, zr G 76, zr G 77, .null, .null, .null].set 10 (zr G 78)))) 79 (.inl (G.2.1 0, 16, (.inl (fun _ => 0))))) 75 (.inr (7, [.int (1 : Int32), .int 0, .int 0, .int 0, .int 0, .int 0, .int 0, .int 0, zr G 76, zr G 77, zr G 78, .null, .null].set 11 (zr G 79)))) 80 (.inl (G.2.1 0, 16, (.inl (fun _ => 0))))) 75 (.inr (7, [.int (1 : Int32), .int 0, .int 0, .int 0, .int 0, .int 0, .int 0, .int 0, zr G 76, zr G 77, zr G 78, zr G 79, .null].set 12 (zr G 80))))
set_option maxRecDepth 20000 in
set_option maxHeartbeats 2000000 in
theorem kBX7_init_75 (l : Launch) (G : zG) (ce : Nat → va_E) (hc75 : ce 75 = .inr (7, [.int 0, .int 0, .int 0, .int 0, .int 0, .int 0, .int 0, .int 0, .null, .null, .null, .null, .null])) : zBM l yX7_init cX7_init 1 none 1 80 5 77 [zr G 75] G 76 ce 81 (ceX7_init_75 G ce) := by
  refine zBM_of (own := RX7) (by decide) rfl (Nat.le_of_ble_eq_true rfl) (fun x hl F hr hk hcs hini => ?_)
  subst hl
  refine b_ls [(0, zr G 75)] [0] rfl ?_
  refine b_aload_n F dX7_init_0 rfl 0 rfl ?_
  refine b_obj F zol_X7_3 zob_2 zob_3 (Nat.le_of_ble_eq_true rfl) (Nat.le_of_ble_eq_true rfl) (Nat.le_of_ble_eq_true rfl) dX7_init_1 ?_
  refine b_aload_n F dX7_init_4 rfl 0 rfl ?_
  refine b_iconst (y := (1 : Int32)) F dX7_init_5 rfl ?_
  refine b_put F (c := 7) (C := RX7) (T := TX7) (N := 13) (fs := [.int 0, .int 0, .int 0, .int 0, .int 0, .int 0, .int 0, .int 0, .null, .null, .null, .null, .null]) (ty := tyX7 0) tyX7 tyX7_ok nmX7 rfl uw_7 0 (by decide) rfl (tyX7_ok 0 (by decide)) rfl rfl (Nat.le_of_ble_eq_true rfl) hc75 (Nat.le_of_ble_eq_true rfl) wF_X7_9 dX7_init_6 ?_
  refine b_aload_n F dX7_init_9 rfl 0 rfl ?_
  refine b_bipush (y := (13 : Int32)) F dX7_init_10 rfl ?_
  refine b_newa F (atype := .int) (ty := .int) (a0 := (13, (.inl (fun _ => 0)))) 0 rfl rfl (by intro C q; cases q) zac_int (fun _ => rfl) (by decide) (by decide) (Nat.le_of_ble_eq_true rfl) ⟨Nat.le_trans (Nat.le_of_ble_eq_true rfl) hcs.1, Nat.le_trans (Nat.le_of_ble_eq_true rfl) hcs.2⟩ dX7_init_12 ?_
  refine b_putF F hini (c := 7) (C := RX7) (T := TX7) (N := 13) (fs := [.int (1 : Int32), .int 0, .int 0, .int 0, .int 0, .int 0, .int 0, .int 0, .null, .null, .null, .null, .null]) (ty := tyX7 8) tyX7 tyX7_ok nmX7 rfl uw_7 8 (by decide) rfl rfl (tyX7_ok 8 (by decide)) rfl rfl (Nat.le_of_ble_eq_true rfl) rfl (Nat.le_of_ble_eq_true rfl) wF_X7_15 dX7_init_14 ?_
  refine b_aload_n F dX7_init_17 rfl 0 rfl ?_
  refine b_bipush (y := (16 : Int32)) F dX7_init_18 rfl ?_
  refine b_newa F (atype := .int) (ty := .int) (a0 := (16, (.inl (fun _ => 0)))) 0 rfl rfl (by intro C q; cases q) zac_int (fun _ => rfl) (by decide) (by decide) (Nat.le_of_ble_eq_true rfl) ⟨Nat.le_trans (Nat.le_of_ble_eq_true rfl) hcs.1, Nat.le_trans (Nat.le_of_ble_eq_true rfl) hcs.2⟩ dX7_init_20 ?_
  refine b_putF F hini (c := 7) (C := RX7) (T := TX7) (N := 13) (fs := [.int (1 : Int32), .int 0, .int 0, .int 0, .int 0, .int 0, .int 0, .int 0, zr G 76, .null, .null, .null, .null]) (ty := tyX7 9) tyX7 tyX7_ok nmX7 rfl uw_7 9 (by decide) rfl rfl (tyX7_ok 9 (by decide)) rfl rfl (Nat.le_of_ble_eq_true rfl) rfl (Nat.le_of_ble_eq_true rfl) wF_X7_19 dX7_init_22 ?_
  refine b_aload_n F dX7_init_25 rfl 0 rfl ?_
  refine b_bipush (y := (16 : Int32)) F dX7_init_26 rfl ?_
  refine b_newa F (atype := .int) (ty := .int) (a0 := (16, (.inl (fun _ => 0)))) 0 rfl rfl (by intro C q; cases q) zac_int (fun _ => rfl) (by decide) (by decide) (Nat.le_of_ble_eq_true rfl) ⟨Nat.le_trans (Nat.le_of_ble_eq_true rfl) hcs.1, Nat.le_trans (Nat.le_of_ble_eq_true rfl) hcs.2⟩ dX7_init_28 ?_
  refine b_putF F hini (c := 7) (C := RX7) (T := TX7) (N := 13) (fs := [.int (1 : Int32), .int 0, .int 0, .int 0, .int 0, .int 0, .int 0, .int 0, zr G 76, zr G 77, .null, .null, .null]) (ty := tyX7 10) tyX7 tyX7_ok nmX7 rfl uw_7 10 (by decide) rfl rfl (tyX7_ok 10 (by decide)) rfl rfl (Nat.le_of_ble_eq_true rfl) rfl (Nat.le_of_ble_eq_true rfl) wF_X7_22 dX7_init_30 ?_
  refine b_aload_n F dX7_init_33 rfl 0 rfl ?_
  refine b_bipush (y := (16 : Int32)) F dX7_init_34 rfl ?_
  refine b_newa F (atype := .int) (ty := .int) (a0 := (16, (.inl (fun _ => 0)))) 0 rfl rfl (by intro C q; cases q) zac_int (fun _ => rfl) (by decide) (by decide) (Nat.le_of_ble_eq_true rfl) ⟨Nat.le_trans (Nat.le_of_ble_eq_true rfl) hcs.1, Nat.le_trans (Nat.le_of_ble_eq_true rfl) hcs.2⟩ dX7_init_36 ?_
  refine b_putF F hini (c := 7) (C := RX7) (T := TX7) (N := 13) (fs := [.int (1 : Int32), .int 0, .int 0, .int 0, .int 0, .int 0, .int 0, .int 0, zr G 76, zr G 77, zr G 78, .null, .null]) (ty := tyX7 11) tyX7 tyX7_ok nmX7 rfl uw_7 11 (by decide) rfl rfl (tyX7_ok 11 (by decide)) rfl rfl (Nat.le_of_ble_eq_true rfl) rfl (Nat.le_of_ble_eq_true rfl) wF_X7_25 dX7_init_38 ?_
  refine b_aload_n F dX7_init_41 rfl 0 rfl ?_
  refine b_bipush (y := (16 : Int32)) F dX7_init_42 rfl ?_
  refine b_newa F (atype := .int) (ty := .int) (a0 := (16, (.inl (fun _ => 0)))) 0 rfl rfl (by intro C q; cases q) zac_int (fun _ => rfl) (by decide) (by decide) (Nat.le_of_ble_eq_true rfl) ⟨Nat.le_trans (Nat.le_of_ble_eq_true rfl) hcs.1, Nat.le_trans (Nat.le_of_ble_eq_true rfl) hcs.2⟩ dX7_init_44 ?_
  refine b_putF F hini (c := 7) (C := RX7) (T := TX7) (N := 13) (fs := [.int (1 : Int32), .int 0, .int 0, .int 0, .int 0, .int 0, .int 0, .int 0, zr G 76, zr G 77, zr G 78, zr G 79, .null]) (ty := tyX7 12) tyX7 tyX7_ok nmX7 rfl uw_7 12 (by decide) rfl rfl (tyX7_ok 12 (by decide)) rfl rfl (Nat.le_of_ble_eq_true rfl) rfl (Nat.le_of_ble_eq_true rfl) wF_X7_28 dX7_init_46 ?_
  exact b_ret F hr hk (fun _ _ => rfl) dX7_init_49

def ceX7_init_81 (G : zG) (ce : Nat → va_E) : Nat → va_E := (bup (bup (bup (bup (bup (bup (bup (bup (bup (bup (bup ce 81 (.inr (7, [.int 0, .int 0, .int 0, .int 0, .int 0, .int 0, .int 0, .int 0, .null, .null, .null, .null, .null].set 0 (.int (1 : Int32))))) 82 (.inl (G.2.1 0, 13, (.inl (fun _ => 0))))) 81 (.inr (7, [.int (1 : Int32), .int 0, .int 0, .int 0, .int 0, .int 0, .int 0, .int 0, .null, .null, .null, .null, .null].set 8 (zr G 82)))) 83 (.inl (G.2.1 0, 16, (.inl (fun _ => 0))))) 81 (.inr (7, [.int (1 : Int32), .int 0, .int 0, .int 0, .int 0, .int 0, .int 0, .int 0, zr G 82, .null, .null, .null, .null].set 9 (zr G 83)))) 84 (.inl (G.2.1 0, 16, (.inl (fun _ => 0))))) 81 (.inr (7, [.int (1 : Int32), .int 0, .int 0, .int 0, .int 0, .int 0, .int 0, .int 0, zr G 82, zr G 83, .null, .null, .null].set 10 (zr G 84)))) 85 (.inl (G.2.1 0, 16, (.inl (fun _ => 0))))) 81 (.inr (7, [.int (1 : Int32), .int 0, .int 0, .int 0, .int 0, .int 0, .int 0, .int 0, zr G 82, zr G 83, zr G 84, .null, .null].set 11 (zr G 85)))) 86 (.inl (G.2.1 0, 16, (.inl (fun _ => 0))))) 81 (.inr (7, [.int (1 : Int32), .int 0, .int 0, .int 0, .int 0, .int 0, .int 0, .int 0, zr G 82, zr G 83, zr G 84, zr G 85, .null].set 12 (zr G 86))))
set_option maxRecDepth 20000 in
set_option maxHeartbeats 2000000 in
theorem kBX7_init_81 (l : Launch) (G : zG) (ce : Nat → va_E) (hc81 : ce 81 = .inr (7, [.int 0, .int 0, .int 0, .int 0, .int 0, .int 0, .int 0, .int 0, .null, .null, .null, .null, .null])) : zBM l yX7_init cX7_init 1 none 1 80 5 77 [zr G 81] G 82 ce 87 (ceX7_init_81 G ce) := by
  refine zBM_of (own := RX7) (by decide) rfl (Nat.le_of_ble_eq_true rfl) (fun x hl F hr hk hcs hini => ?_)
  subst hl
  refine b_ls [(0, zr G 81)] [0] rfl ?_
  refine b_aload_n F dX7_init_0 rfl 0 rfl ?_
  refine b_obj F zol_X7_3 zob_2 zob_3 (Nat.le_of_ble_eq_true rfl) (Nat.le_of_ble_eq_true rfl) (Nat.le_of_ble_eq_true rfl) dX7_init_1 ?_
  refine b_aload_n F dX7_init_4 rfl 0 rfl ?_
  refine b_iconst (y := (1 : Int32)) F dX7_init_5 rfl ?_
  refine b_put F (c := 7) (C := RX7) (T := TX7) (N := 13) (fs := [.int 0, .int 0, .int 0, .int 0, .int 0, .int 0, .int 0, .int 0, .null, .null, .null, .null, .null]) (ty := tyX7 0) tyX7 tyX7_ok nmX7 rfl uw_7 0 (by decide) rfl (tyX7_ok 0 (by decide)) rfl rfl (Nat.le_of_ble_eq_true rfl) hc81 (Nat.le_of_ble_eq_true rfl) wF_X7_9 dX7_init_6 ?_
  refine b_aload_n F dX7_init_9 rfl 0 rfl ?_
  refine b_bipush (y := (13 : Int32)) F dX7_init_10 rfl ?_
  refine b_newa F (atype := .int) (ty := .int) (a0 := (13, (.inl (fun _ => 0)))) 0 rfl rfl (by intro C q; cases q) zac_int (fun _ => rfl) (by decide) (by decide) (Nat.le_of_ble_eq_true rfl) ⟨Nat.le_trans (Nat.le_of_ble_eq_true rfl) hcs.1, Nat.le_trans (Nat.le_of_ble_eq_true rfl) hcs.2⟩ dX7_init_12 ?_
  refine b_putF F hini (c := 7) (C := RX7) (T := TX7) (N := 13) (fs := [.int (1 : Int32), .int 0, .int 0, .int 0, .int 0, .int 0, .int 0, .int 0, .null, .null, .null, .null, .null]) (ty := tyX7 8) tyX7 tyX7_ok nmX7 rfl uw_7 8 (by decide) rfl rfl (tyX7_ok 8 (by decide)) rfl rfl (Nat.le_of_ble_eq_true rfl) rfl (Nat.le_of_ble_eq_true rfl) wF_X7_15 dX7_init_14 ?_
  refine b_aload_n F dX7_init_17 rfl 0 rfl ?_
  refine b_bipush (y := (16 : Int32)) F dX7_init_18 rfl ?_
  refine b_newa F (atype := .int) (ty := .int) (a0 := (16, (.inl (fun _ => 0)))) 0 rfl rfl (by intro C q; cases q) zac_int (fun _ => rfl) (by decide) (by decide) (Nat.le_of_ble_eq_true rfl) ⟨Nat.le_trans (Nat.le_of_ble_eq_true rfl) hcs.1, Nat.le_trans (Nat.le_of_ble_eq_true rfl) hcs.2⟩ dX7_init_20 ?_
  refine b_putF F hini (c := 7) (C := RX7) (T := TX7) (N := 13) (fs := [.int (1 : Int32), .int 0, .int 0, .int 0, .int 0, .int 0, .int 0, .int 0, zr G 82, .null, .null, .null, .null]) (ty := tyX7 9) tyX7 tyX7_ok nmX7 rfl uw_7 9 (by decide) rfl rfl (tyX7_ok 9 (by decide)) rfl rfl (Nat.le_of_ble_eq_true rfl) rfl (Nat.le_of_ble_eq_true rfl) wF_X7_19 dX7_init_22 ?_
  refine b_aload_n F dX7_init_25 rfl 0 rfl ?_
  refine b_bipush (y := (16 : Int32)) F dX7_init_26 rfl ?_
  refine b_newa F (atype := .int) (ty := .int) (a0 := (16, (.inl (fun _ => 0)))) 0 rfl rfl (by intro C q; cases q) zac_int (fun _ => rfl) (by decide) (by decide) (Nat.le_of_ble_eq_true rfl) ⟨Nat.le_trans (Nat.le_of_ble_eq_true rfl) hcs.1, Nat.le_trans (Nat.le_of_ble_eq_true rfl) hcs.2⟩ dX7_init_28 ?_
  refine b_putF F hini (c := 7) (C := RX7) (T := TX7) (N := 13) (fs := [.int (1 : Int32), .int 0, .int 0, .int 0, .int 0, .int 0, .int 0, .int 0, zr G 82, zr G 83, .null, .null, .null]) (ty := tyX7 10) tyX7 tyX7_ok nmX7 rfl uw_7 10 (by decide) rfl rfl (tyX7_ok 10 (by decide)) rfl rfl (Nat.le_of_ble_eq_true rfl) rfl (Nat.le_of_ble_eq_true rfl) wF_X7_22 dX7_init_30 ?_
  refine b_aload_n F dX7_init_33 rfl 0 rfl ?_
  refine b_bipush (y := (16 : Int32)) F dX7_init_34 rfl ?_
  refine b_newa F (atype := .int) (ty := .int) (a0 := (16, (.inl (fun _ => 0)))) 0 rfl rfl (by intro C q; cases q) zac_int (fun _ => rfl) (by decide) (by decide) (Nat.le_of_ble_eq_true rfl) ⟨Nat.le_trans (Nat.le_of_ble_eq_true rfl) hcs.1, Nat.le_trans (Nat.le_of_ble_eq_true rfl) hcs.2⟩ dX7_init_36 ?_
  refine b_putF F hini (c := 7) (C := RX7) (T := TX7) (N := 13) (fs := [.int (1 : Int32), .int 0, .int 0, .int 0, .int 0, .int 0, .int 0, .int 0, zr G 82, zr G 83, zr G 84, .null, .null]) (ty := tyX7 11) tyX7 tyX7_ok nmX7 rfl uw_7 11 (by decide) rfl rfl (tyX7_ok 11 (by decide)) rfl rfl (Nat.le_of_ble_eq_true rfl) rfl (Nat.le_of_ble_eq_true rfl) wF_X7_25 dX7_init_38 ?_
  refine b_aload_n F dX7_init_41 rfl 0 rfl ?_
  refine b_bipush (y := (16 : Int32)) F dX7_init_42 rfl ?_
  refine b_newa F (atype := .int) (ty := .int) (a0 := (16, (.inl (fun _ => 0)))) 0 rfl rfl (by intro C q; cases q) zac_int (fun _ => rfl) (by decide) (by decide) (Nat.le_of_ble_eq_true rfl) ⟨Nat.le_trans (Nat.le_of_ble_eq_true rfl) hcs.1, Nat.le_trans (Nat.le_of_ble_eq_true rfl) hcs.2⟩ dX7_init_44 ?_
  refine b_putF F hini (c := 7) (C := RX7) (T := TX7) (N := 13) (fs := [.int (1 : Int32), .int 0, .int 0, .int 0, .int 0, .int 0, .int 0, .int 0, zr G 82, zr G 83, zr G 84, zr G 85, .null]) (ty := tyX7 12) tyX7 tyX7_ok nmX7 rfl uw_7 12 (by decide) rfl rfl (tyX7_ok 12 (by decide)) rfl rfl (Nat.le_of_ble_eq_true rfl) rfl (Nat.le_of_ble_eq_true rfl) wF_X7_28 dX7_init_46 ?_
  exact b_ret F hr hk (fun _ _ => rfl) dX7_init_49

theorem dX4_init_0 : decode cX4_init 0 = .ok (.aload_n 0, 1) := by decide +kernel
theorem dX4_init_1 : decode cX4_init 1 = .ok (.invokespecial 3, 3) := by decide +kernel
theorem dX4_init_4 : decode cX4_init 4 = .ok (.aload_n 0, 1) := by decide +kernel
theorem dX4_init_5 : decode cX4_init 5 = .ok (.new 9, 3) := by decide +kernel
theorem dX4_init_8 : decode cX4_init 8 = .ok (.dup, 1) := by decide +kernel
theorem dX4_init_9 : decode cX4_init 9 = .ok (.invokespecial 11, 3) := by decide +kernel
theorem dX4_init_12 : decode cX4_init 12 = .ok (.putfield 12, 3) := by decide +kernel
theorem dX4_init_15 : decode cX4_init 15 = .ok (.aload_n 0, 1) := by decide +kernel
theorem dX4_init_16 : decode cX4_init 16 = .ok (.iconst 4, 1) := by decide +kernel
theorem dX4_init_17 : decode cX4_init 17 = .ok (.anewarray 9, 3) := by decide +kernel
theorem dX4_init_20 : decode cX4_init 20 = .ok (.putfield 18, 3) := by decide +kernel
theorem dX4_init_23 : decode cX4_init 23 = .ok (.aload_n 0, 1) := by decide +kernel
theorem dX4_init_24 : decode cX4_init 24 = .ok (.sipush 289, 3) := by decide +kernel
theorem dX4_init_27 : decode cX4_init 27 = .ok (.newarray .int, 2) := by decide +kernel
theorem dX4_init_29 : decode cX4_init 29 = .ok (.putfield 22, 3) := by decide +kernel
theorem dX4_init_32 : decode cX4_init 32 = .ok (.aload_n 0, 1) := by decide +kernel
theorem dX4_init_33 : decode cX4_init 33 = .ok (.bipush 13, 2) := by decide +kernel
theorem dX4_init_35 : decode cX4_init 35 = .ok (.newarray .int, 2) := by decide +kernel
theorem dX4_init_37 : decode cX4_init 37 = .ok (.putfield 26, 3) := by decide +kernel
theorem dX4_init_40 : decode cX4_init 40 = .ok (.aload_n 0, 1) := by decide +kernel
theorem dX4_init_41 : decode cX4_init 41 = .ok (.iconst 3, 1) := by decide +kernel
theorem dX4_init_42 : decode cX4_init 42 = .ok (.newarray .int, 2) := by decide +kernel
theorem dX4_init_44 : decode cX4_init 44 = .ok (.putfield 29, 3) := by decide +kernel
theorem dX4_init_47 : decode cX4_init 47 = .ok (.aload_n 0, 1) := by decide +kernel
theorem dX4_init_48 : decode cX4_init 48 = .ok (.aload_n 1, 1) := by decide +kernel
theorem dX4_init_49 : decode cX4_init 49 = .ok (.putfield 32, 3) := by decide +kernel
theorem dX4_init_52 : decode cX4_init 52 = .ok (.aload_n 0, 1) := by decide +kernel
theorem dX4_init_53 : decode cX4_init 53 = .ok (.aload_n 2, 1) := by decide +kernel
theorem dX4_init_54 : decode cX4_init 54 = .ok (.putfield 36, 3) := by decide +kernel
theorem dX4_init_57 : decode cX4_init 57 = .ok (.aload_n 0, 1) := by decide +kernel
theorem dX4_init_58 : decode cX4_init 58 = .ok (.aload_n 3, 1) := by decide +kernel
theorem dX4_init_59 : decode cX4_init 59 = .ok (.putfield 40, 3) := by decide +kernel
theorem dX4_init_62 : decode cX4_init 62 = .ok (.iconst 0, 1) := by decide +kernel
theorem dX4_init_63 : decode cX4_init 63 = .ok (.istore 4, 2) := by decide +kernel
theorem dX4_init_65 : decode cX4_init 65 = .ok (.iload 4, 2) := by decide +kernel
theorem dX4_init_67 : decode cX4_init 67 = .ok (.aload_n 0, 1) := by decide +kernel
theorem dX4_init_68 : decode cX4_init 68 = .ok (.getfield 18, 3) := by decide +kernel
theorem dX4_init_71 : decode cX4_init 71 = .ok (.arraylength, 1) := by decide +kernel
theorem dX4_init_72 : decode cX4_init 72 = .ok (.if_icmp .ge 23, 3) := by decide +kernel
theorem dX4_init_75 : decode cX4_init 75 = .ok (.aload_n 0, 1) := by decide +kernel
theorem dX4_init_76 : decode cX4_init 76 = .ok (.getfield 18, 3) := by decide +kernel
theorem dX4_init_79 : decode cX4_init 79 = .ok (.iload 4, 2) := by decide +kernel
theorem dX4_init_81 : decode cX4_init 81 = .ok (.new 9, 3) := by decide +kernel
theorem dX4_init_84 : decode cX4_init 84 = .ok (.dup, 1) := by decide +kernel
theorem dX4_init_85 : decode cX4_init 85 = .ok (.invokespecial 11, 3) := by decide +kernel
theorem dX4_init_88 : decode cX4_init 88 = .ok (.aastore, 1) := by decide +kernel
theorem dX4_init_89 : decode cX4_init 89 = .ok (.iinc 4 1, 3) := by decide +kernel
theorem dX4_init_92 : decode cX4_init 92 = .ok (.goto (-27), 3) := by decide +kernel
theorem dX4_init_95 : decode cX4_init 95 = .ok (.return_, 1) := by decide +kernel
def ceX4_init_52_3_50_37 (G : zG) (ce : Nat → va_E) : Nat → va_E := (bup (ceX7_init_81 G (bup (bup (ceX7_init_75 G (bup (bup (ceX7_init_69 G (bup (bup (ceX7_init_63 G (bup (bup (bup (bup (bup (bup (bup (bup (bup (bup (bup (bup (bup (ceX7_init_53 G (bup ce 53 (.inr (7, [.int 0, .int 0, .int 0, .int 0, .int 0, .int 0, .int 0, .int 0, .null, .null, .null, .null, .null])))) 52 (.inr (4, [.null, .null, .null, .null, .null, .null, .null, .null, .int 0, .int 0, .int 0, .int 0, .int 0].set 3 (zr G 53)))) 59 (.inl (G.2.1 4, 4, (.inr (.inr (.inr (.inr (fun _ => none)))))))) 52 (.inr (4, [.null, .null, .null, zr G 53, .null, .null, .null, .null, .int 0, .int 0, .int 0, .int 0, .int 0].set 4 (zr G 59)))) 60 (.inl (G.2.1 0, 289, (.inl (fun _ => 0))))) 52 (.inr (4, [.null, .null, .null, zr G 53, zr G 59, .null, .null, .null, .int 0, .int 0, .int 0, .int 0, .int 0].set 5 (zr G 60)))) 61 (.inl (G.2.1 0, 13, (.inl (fun _ => 0))))) 52 (.inr (4, [.null, .null, .null, zr G 53, zr G 59, zr G 60, .null, .null, .int 0, .int 0, .int 0, .int 0, .int 0].set 6 (zr G 61)))) 62 (.inl (G.2.1 0, 3, (.inl (fun _ => 0))))) 52 (.inr (4, [.null, .null, .null, zr G 53, zr G 59, zr G 60, zr G 61, .null, .int 0, .int 0, .int 0, .int 0, .int 0].set 7 (zr G 62)))) 52 (.inr (4, [.null, .null, .null, zr G 53, zr G 59, zr G 60, zr G 61, zr G 62, .int 0, .int 0, .int 0, .int 0, .int 0].set 0 (zr G 3)))) 52 (.inr (4, [zr G 3, .null, .null, zr G 53, zr G 59, zr G 60, zr G 61, zr G 62, .int 0, .int 0, .int 0, .int 0, .int 0].set 1 (zr G 50)))) 52 (.inr (4, [zr G 3, zr G 50, .null, zr G 53, zr G 59, zr G 60, zr G 61, zr G 62, .int 0, .int 0, .int 0, .int 0, .int 0].set 2 (zr G 37)))) 63 (.inr (7, [.int 0, .int 0, .int 0, .int 0, .int 0, .int 0, .int 0, .int 0, .null, .null, .null, .null, .null])))) 59 (.inl (G.2.1 4, 4, .inr (.inr (.inr (.inr (va_up (fun _ => none) (0 : Int32).toNatClampNeg (some (G.2.2 + 63))))))))) 69 (.inr (7, [.int 0, .int 0, .int 0, .int 0, .int 0, .int 0, .int 0, .int 0, .null, .null, .null, .null, .null])))) 59 (.inl (G.2.1 4, 4, .inr (.inr (.inr (.inr (va_up (va_up (fun _ => none) (0 : Int32).toNatClampNeg (some (G.2.2 + 63))) (1 : Int32).toNatClampNeg (some (G.2.2 + 69))))))))) 75 (.inr (7, [.int 0, .int 0, .int 0, .int 0, .int 0, .int 0, .int 0, .int 0, .null, .null, .null, .null, .null])))) 59 (.inl (G.2.1 4, 4, .inr (.inr (.inr (.inr (va_up (va_up (va_up (fun _ => none) (0 : Int32).toNatClampNeg (some (G.2.2 + 63))) (1 : Int32).toNatClampNeg (some (G.2.2 + 69))) (2 : Int32).toNatClampNeg (some (G.2.2 + 75))))))))) 81 (.inr (7, [.int 0, .int 0, .int 0, .int 0, .int 0, .int 0, .int 0, .int 0, .null, .null, .null, .null, .null])))) 59 (.inl (G.2.1 4, 4, .inr (.inr (.inr (.inr (va_up (va_up (va_up (va_up (fun _ => none) (0 : Int32).toNatClampNeg (some (G.2.2 + 63))) (1 : Int32).toNatClampNeg (some (G.2.2 + 69))) (2 : Int32).toNatClampNeg (some (G.2.2 + 75))) (3 : Int32).toNatClampNeg (some (G.2.2 + 81)))))))))
set_option maxRecDepth 20000 in
set_option maxHeartbeats 2000000 in
theorem kBX4_init_52_3_50_37 (l : Launch) (G : zG) (ce : Nat → va_E) (hc52 : ce 52 = .inr (4, [.null, .null, .null, .null, .null, .null, .null, .null, .int 0, .int 0, .int 0, .int 0, .int 0])) : zBM l yX4_init cX4_init 5 none 2 100 34 759 [zr G 52, zr G 3, zr G 50, zr G 37] G 53 ce 87 (ceX4_init_52_3_50_37 G ce) := by
  refine zBM_of (own := RX4) (by decide) rfl (Nat.le_of_ble_eq_true rfl) (fun x hl F hr hk hcs hini => ?_)
  subst hl
  refine b_ls [(0, zr G 52), (1, zr G 3), (2, zr G 50), (3, zr G 37)] [0, 1, 2, 3] rfl ?_
  refine b_aload_n F dX4_init_0 rfl 0 rfl ?_
  refine b_obj F zol_X4_3 zob_2 zob_3 (Nat.le_of_ble_eq_true rfl) (Nat.le_of_ble_eq_true rfl) (Nat.le_of_ble_eq_true rfl) dX4_init_1 ?_
  refine b_aload_n F dX4_init_4 rfl 0 rfl ?_
  refine b_new F (c := 7) (C := RX7) (T := TX7) (N := 13) (fs := [.int 0, .int 0, .int 0, .int 0, .int 0, .int 0, .int 0, .int 0, .null, .null, .null, .null, .null]) tyX7 tyX7_ok rfl uw_7 zcl_X4_9 zin_RX7 ini_RX7 (by decide +kernel) ⟨Nat.le_trans (Nat.le_of_ble_eq_true rfl) hcs.1, Nat.le_trans (Nat.le_of_ble_eq_true rfl) hcs.2⟩ dX4_init_5 ?_
  refine b_dup F dX4_init_8 rfl ?_
  refine b_callIN F [] [zr G 53, zr G 52] (n' := 59) (kBX7_init_53 x.2.1 G _ rfl) mI_X7_init rfl wN_X4_11 mi_X7_init rfl dX4_init_9 rfl ⟨Nat.le_of_ble_eq_true rfl, Nat.le_of_ble_eq_true rfl⟩ rfl (Nat.le_of_ble_eq_true rfl) ⟨Nat.le_trans (Nat.le_of_ble_eq_true rfl) hcs.1, Nat.le_trans (Nat.le_of_ble_eq_true rfl) hcs.2⟩ ?_
  refine b_putF F hini (c := 4) (C := RX4) (T := TX4) (N := 13) (fs := [.null, .null, .null, .null, .null, .null, .null, .null, .int 0, .int 0, .int 0, .int 0, .int 0]) (ty := tyX4 3) tyX4 tyX4_ok nmX4 rfl uw_4 3 (by decide) rfl rfl (tyX4_ok 3 (by decide)) rfl rfl (Nat.le_of_ble_eq_true rfl) hc52 (Nat.le_of_ble_eq_true rfl) wF_X4_12 dX4_init_12 ?_
  refine b_aload_n F dX4_init_15 rfl 0 rfl ?_
  refine b_iconst (y := (4 : Int32)) F dX4_init_16 rfl ?_
  refine b_newq F zcl_X4_9 zao_row (N' := 4) (by decide) (by decide) (Nat.le_of_ble_eq_true rfl) ⟨Nat.le_trans (Nat.le_of_ble_eq_true rfl) hcs.1, Nat.le_trans (Nat.le_of_ble_eq_true rfl) hcs.2⟩ dX4_init_17 ?_
  refine b_putF F hini (c := 4) (C := RX4) (T := TX4) (N := 13) (fs := [.null, .null, .null, zr G 53, .null, .null, .null, .null, .int 0, .int 0, .int 0, .int 0, .int 0]) (ty := tyX4 4) tyX4 tyX4_ok nmX4 rfl uw_4 4 (by decide) rfl rfl (tyX4_ok 4 (by decide)) rfl rfl (Nat.le_of_ble_eq_true rfl) rfl (Nat.le_of_ble_eq_true rfl) wF_X4_18 dX4_init_20 ?_
  refine b_aload_n F dX4_init_23 rfl 0 rfl ?_
  refine b_sipush (y := (289 : Int32)) F dX4_init_24 rfl ?_
  refine b_newa F (atype := .int) (ty := .int) (a0 := (289, (.inl (fun _ => 0)))) 0 rfl rfl (by intro C q; cases q) zac_int (fun _ => rfl) (by decide) (by decide) (Nat.le_of_ble_eq_true rfl) ⟨Nat.le_trans (Nat.le_of_ble_eq_true rfl) hcs.1, Nat.le_trans (Nat.le_of_ble_eq_true rfl) hcs.2⟩ dX4_init_27 ?_
  refine b_putF F hini (c := 4) (C := RX4) (T := TX4) (N := 13) (fs := [.null, .null, .null, zr G 53, zr G 59, .null, .null, .null, .int 0, .int 0, .int 0, .int 0, .int 0]) (ty := tyX4 5) tyX4 tyX4_ok nmX4 rfl uw_4 5 (by decide) rfl rfl (tyX4_ok 5 (by decide)) rfl rfl (Nat.le_of_ble_eq_true rfl) rfl (Nat.le_of_ble_eq_true rfl) wF_X4_22 dX4_init_29 ?_
  refine b_aload_n F dX4_init_32 rfl 0 rfl ?_
  refine b_bipush (y := (13 : Int32)) F dX4_init_33 rfl ?_
  refine b_newa F (atype := .int) (ty := .int) (a0 := (13, (.inl (fun _ => 0)))) 0 rfl rfl (by intro C q; cases q) zac_int (fun _ => rfl) (by decide) (by decide) (Nat.le_of_ble_eq_true rfl) ⟨Nat.le_trans (Nat.le_of_ble_eq_true rfl) hcs.1, Nat.le_trans (Nat.le_of_ble_eq_true rfl) hcs.2⟩ dX4_init_35 ?_
  refine b_putF F hini (c := 4) (C := RX4) (T := TX4) (N := 13) (fs := [.null, .null, .null, zr G 53, zr G 59, zr G 60, .null, .null, .int 0, .int 0, .int 0, .int 0, .int 0]) (ty := tyX4 6) tyX4 tyX4_ok nmX4 rfl uw_4 6 (by decide) rfl rfl (tyX4_ok 6 (by decide)) rfl rfl (Nat.le_of_ble_eq_true rfl) rfl (Nat.le_of_ble_eq_true rfl) wF_X4_26 dX4_init_37 ?_
  refine b_aload_n F dX4_init_40 rfl 0 rfl ?_
  refine b_iconst (y := (3 : Int32)) F dX4_init_41 rfl ?_
  refine b_newa F (atype := .int) (ty := .int) (a0 := (3, (.inl (fun _ => 0)))) 0 rfl rfl (by intro C q; cases q) zac_int (fun _ => rfl) (by decide) (by decide) (Nat.le_of_ble_eq_true rfl) ⟨Nat.le_trans (Nat.le_of_ble_eq_true rfl) hcs.1, Nat.le_trans (Nat.le_of_ble_eq_true rfl) hcs.2⟩ dX4_init_42 ?_
  refine b_putF F hini (c := 4) (C := RX4) (T := TX4) (N := 13) (fs := [.null, .null, .null, zr G 53, zr G 59, zr G 60, zr G 61, .null, .int 0, .int 0, .int 0, .int 0, .int 0]) (ty := tyX4 7) tyX4 tyX4_ok nmX4 rfl uw_4 7 (by decide) rfl rfl (tyX4_ok 7 (by decide)) rfl rfl (Nat.le_of_ble_eq_true rfl) rfl (Nat.le_of_ble_eq_true rfl) wF_X4_29 dX4_init_44 ?_
  refine b_aload_n F dX4_init_47 rfl 0 rfl ?_
  refine b_aload_n F dX4_init_48 rfl 1 rfl ?_
  refine b_putF F hini (c := 4) (C := RX4) (T := TX4) (N := 13) (fs := [.null, .null, .null, zr G 53, zr G 59, zr G 60, zr G 61, zr G 62, .int 0, .int 0, .int 0, .int 0, .int 0]) (ty := tyX4 0) tyX4 tyX4_ok nmX4 rfl uw_4 0 (by decide) rfl rfl (tyX4_ok 0 (by decide)) rfl rfl (Nat.le_of_ble_eq_true rfl) rfl (Nat.le_of_ble_eq_true rfl) wF_X4_32 dX4_init_49 ?_
  refine b_aload_n F dX4_init_52 rfl 0 rfl ?_
  refine b_aload_n F dX4_init_53 rfl 2 rfl ?_
  refine b_putF F hini (c := 4) (C := RX4) (T := TX4) (N := 13) (fs := [zr G 3, .null, .null, zr G 53, zr G 59, zr G 60, zr G 61, zr G 62, .int 0, .int 0, .int 0, .int 0, .int 0]) (ty := tyX4 1) tyX4 tyX4_ok nmX4 rfl uw_4 1 (by decide) rfl rfl (tyX4_ok 1 (by decide)) rfl rfl (Nat.le_of_ble_eq_true rfl) rfl (Nat.le_of_ble_eq_true rfl) wF_X4_36 dX4_init_54 ?_
  refine b_aload_n F dX4_init_57 rfl 0 rfl ?_
  refine b_aload_n F dX4_init_58 rfl 3 rfl ?_
  refine b_putF F hini (c := 4) (C := RX4) (T := TX4) (N := 13) (fs := [zr G 3, zr G 50, .null, zr G 53, zr G 59, zr G 60, zr G 61, zr G 62, .int 0, .int 0, .int 0, .int 0, .int 0]) (ty := tyX4 2) tyX4 tyX4_ok nmX4 rfl uw_4 2 (by decide) rfl rfl (tyX4_ok 2 (by decide)) rfl rfl (Nat.le_of_ble_eq_true rfl) rfl (Nat.le_of_ble_eq_true rfl) wF_X4_40 dX4_init_59 ?_
  refine b_iconst (y := (0 : Int32)) F dX4_init_62 rfl ?_
  refine b_istore (nn := 0) F [(4, .int (0 : Int32)), (0, zr G 52), (1, zr G 3), (2, zr G 50), (3, zr G 37)] dX4_init_63 (Nat.le_of_ble_eq_true rfl) rfl ?_
  refine b_iload F dX4_init_65 0 rfl ?_
  refine b_aload_n F dX4_init_67 rfl 1 rfl ?_
  refine b_getR F (c := 4) (C := RX4) (T := TX4) (N := 13) (fs := [zr G 3, zr G 50, zr G 37, zr G 53, zr G 59, zr G 60, zr G 61, zr G 62, .int 0, .int 0, .int 0, .int 0, .int 0]) rfl uw_4 4 (by decide) (Nat.le_of_ble_eq_true rfl) rfl rfl wF_X4_18 dX4_init_68 ?_
  refine b_alen4 F (N' := 4) (f := (fun _ => none)) (y := (4 : Int32)) (Nat.le_of_ble_eq_true rfl) rfl rfl dX4_init_71 ?_
  refine b_icmp_ge F 95 dX4_init_72 rfl (fun hc => absurd hc (by decide)) (fun _ => ?_)
  refine b_aload_n F dX4_init_75 rfl 1 rfl ?_
  refine b_getR F (c := 4) (C := RX4) (T := TX4) (N := 13) (fs := [zr G 3, zr G 50, zr G 37, zr G 53, zr G 59, zr G 60, zr G 61, zr G 62, .int 0, .int 0, .int 0, .int 0, .int 0]) rfl uw_4 4 (by decide) (Nat.le_of_ble_eq_true rfl) rfl rfl wF_X4_18 dX4_init_76 ?_
  refine b_iload F dX4_init_79 0 rfl ?_
  refine b_new F (c := 7) (C := RX7) (T := TX7) (N := 13) (fs := [.int 0, .int 0, .int 0, .int 0, .int 0, .int 0, .int 0, .int 0, .null, .null, .null, .null, .null]) tyX7 tyX7_ok rfl uw_7 zcl_X4_9 zin_RX7 ini_RX7 (by decide +kernel) ⟨Nat.le_trans (Nat.le_of_ble_eq_true rfl) hcs.1, Nat.le_trans (Nat.le_of_ble_eq_true rfl) hcs.2⟩ dX4_init_81 ?_
  refine b_dup F dX4_init_84 rfl ?_
  refine b_callIN F [] [zr G 63, .int (0 : Int32), zr G 59] (n' := 69) (kBX7_init_63 x.2.1 G _ rfl) mI_X7_init rfl wN_X4_11 mi_X7_init rfl dX4_init_85 rfl ⟨Nat.le_of_ble_eq_true rfl, Nat.le_of_ble_eq_true rfl⟩ rfl (Nat.le_of_ble_eq_true rfl) ⟨Nat.le_trans (Nat.le_of_ble_eq_true rfl) hcs.1, Nat.le_trans (Nat.le_of_ble_eq_true rfl) hcs.2⟩ ?_
  refine b_aast F (N' := 4) (f := (fun _ => none)) (Nat.le_of_ble_eq_true rfl) (Nat.le_of_ble_eq_true rfl) rfl rfl (vp_in_nI (n := 0) (by decide) (by decide)) dX4_init_88 ?_
  refine b_iinc F [(4, .int (1 : Int32)), (0, zr G 52), (1, zr G 3), (2, zr G 50), (3, zr G 37)] dX4_init_89 0 rfl rfl (Nat.le_of_ble_eq_true rfl) rfl ?_
  refine b_goto F 65 dX4_init_92 rfl ?_
  refine b_iload F dX4_init_65 0 rfl ?_
  refine b_aload_n F dX4_init_67 rfl 1 rfl ?_
  refine b_getR F (c := 4) (C := RX4) (T := TX4) (N := 13) (fs := [zr G 3, zr G 50, zr G 37, zr G 53, zr G 59, zr G 60, zr G 61, zr G 62, .int 0, .int 0, .int 0, .int 0, .int 0]) rfl uw_4 4 (by decide) (Nat.le_of_ble_eq_true rfl) rfl rfl wF_X4_18 dX4_init_68 ?_
  refine b_alen4 F (N' := 4) (f := (va_up (fun _ => none) (0 : Int32).toNatClampNeg (some (G.2.2 + 63)))) (y := (4 : Int32)) (Nat.le_of_ble_eq_true rfl) rfl rfl dX4_init_71 ?_
  refine b_icmp_ge F 95 dX4_init_72 rfl (fun hc => absurd hc (by decide)) (fun _ => ?_)
  refine b_aload_n F dX4_init_75 rfl 1 rfl ?_
  refine b_getR F (c := 4) (C := RX4) (T := TX4) (N := 13) (fs := [zr G 3, zr G 50, zr G 37, zr G 53, zr G 59, zr G 60, zr G 61, zr G 62, .int 0, .int 0, .int 0, .int 0, .int 0]) rfl uw_4 4 (by decide) (Nat.le_of_ble_eq_true rfl) rfl rfl wF_X4_18 dX4_init_76 ?_
  refine b_iload F dX4_init_79 0 rfl ?_
  refine b_new F (c := 7) (C := RX7) (T := TX7) (N := 13) (fs := [.int 0, .int 0, .int 0, .int 0, .int 0, .int 0, .int 0, .int 0, .null, .null, .null, .null, .null]) tyX7 tyX7_ok rfl uw_7 zcl_X4_9 zin_RX7 ini_RX7 (by decide +kernel) ⟨Nat.le_trans (Nat.le_of_ble_eq_true rfl) hcs.1, Nat.le_trans (Nat.le_of_ble_eq_true rfl) hcs.2⟩ dX4_init_81 ?_
  refine b_dup F dX4_init_84 rfl ?_
  refine b_callIN F [] [zr G 69, .int (1 : Int32), zr G 59] (n' := 75) (kBX7_init_69 x.2.1 G _ rfl) mI_X7_init rfl wN_X4_11 mi_X7_init rfl dX4_init_85 rfl ⟨Nat.le_of_ble_eq_true rfl, Nat.le_of_ble_eq_true rfl⟩ rfl (Nat.le_of_ble_eq_true rfl) ⟨Nat.le_trans (Nat.le_of_ble_eq_true rfl) hcs.1, Nat.le_trans (Nat.le_of_ble_eq_true rfl) hcs.2⟩ ?_
  refine b_aast F (N' := 4) (f := (va_up (fun _ => none) (0 : Int32).toNatClampNeg (some (G.2.2 + 63)))) (Nat.le_of_ble_eq_true rfl) (Nat.le_of_ble_eq_true rfl) rfl rfl (vp_in_nI (n := 1) (by decide) (by decide)) dX4_init_88 ?_
  refine b_iinc F [(4, .int (2 : Int32)), (0, zr G 52), (1, zr G 3), (2, zr G 50), (3, zr G 37)] dX4_init_89 0 rfl rfl (Nat.le_of_ble_eq_true rfl) rfl ?_
  refine b_goto F 65 dX4_init_92 rfl ?_
  refine b_iload F dX4_init_65 0 rfl ?_
  refine b_aload_n F dX4_init_67 rfl 1 rfl ?_
  refine b_getR F (c := 4) (C := RX4) (T := TX4) (N := 13) (fs := [zr G 3, zr G 50, zr G 37, zr G 53, zr G 59, zr G 60, zr G 61, zr G 62, .int 0, .int 0, .int 0, .int 0, .int 0]) rfl uw_4 4 (by decide) (Nat.le_of_ble_eq_true rfl) rfl rfl wF_X4_18 dX4_init_68 ?_
  refine b_alen4 F (N' := 4) (f := (va_up (va_up (fun _ => none) (0 : Int32).toNatClampNeg (some (G.2.2 + 63))) (1 : Int32).toNatClampNeg (some (G.2.2 + 69)))) (y := (4 : Int32)) (Nat.le_of_ble_eq_true rfl) rfl rfl dX4_init_71 ?_
  refine b_icmp_ge F 95 dX4_init_72 rfl (fun hc => absurd hc (by decide)) (fun _ => ?_)
  refine b_aload_n F dX4_init_75 rfl 1 rfl ?_
  refine b_getR F (c := 4) (C := RX4) (T := TX4) (N := 13) (fs := [zr G 3, zr G 50, zr G 37, zr G 53, zr G 59, zr G 60, zr G 61, zr G 62, .int 0, .int 0, .int 0, .int 0, .int 0]) rfl uw_4 4 (by decide) (Nat.le_of_ble_eq_true rfl) rfl rfl wF_X4_18 dX4_init_76 ?_
  refine b_iload F dX4_init_79 0 rfl ?_
  refine b_new F (c := 7) (C := RX7) (T := TX7) (N := 13) (fs := [.int 0, .int 0, .int 0, .int 0, .int 0, .int 0, .int 0, .int 0, .null, .null, .null, .null, .null]) tyX7 tyX7_ok rfl uw_7 zcl_X4_9 zin_RX7 ini_RX7 (by decide +kernel) ⟨Nat.le_trans (Nat.le_of_ble_eq_true rfl) hcs.1, Nat.le_trans (Nat.le_of_ble_eq_true rfl) hcs.2⟩ dX4_init_81 ?_
  refine b_dup F dX4_init_84 rfl ?_
  refine b_callIN F [] [zr G 75, .int (2 : Int32), zr G 59] (n' := 81) (kBX7_init_75 x.2.1 G _ rfl) mI_X7_init rfl wN_X4_11 mi_X7_init rfl dX4_init_85 rfl ⟨Nat.le_of_ble_eq_true rfl, Nat.le_of_ble_eq_true rfl⟩ rfl (Nat.le_of_ble_eq_true rfl) ⟨Nat.le_trans (Nat.le_of_ble_eq_true rfl) hcs.1, Nat.le_trans (Nat.le_of_ble_eq_true rfl) hcs.2⟩ ?_
  refine b_aast F (N' := 4) (f := (va_up (va_up (fun _ => none) (0 : Int32).toNatClampNeg (some (G.2.2 + 63))) (1 : Int32).toNatClampNeg (some (G.2.2 + 69)))) (Nat.le_of_ble_eq_true rfl) (Nat.le_of_ble_eq_true rfl) rfl rfl (vp_in_nI (n := 2) (by decide) (by decide)) dX4_init_88 ?_
  refine b_iinc F [(4, .int (3 : Int32)), (0, zr G 52), (1, zr G 3), (2, zr G 50), (3, zr G 37)] dX4_init_89 0 rfl rfl (Nat.le_of_ble_eq_true rfl) rfl ?_
  refine b_goto F 65 dX4_init_92 rfl ?_
  refine b_iload F dX4_init_65 0 rfl ?_
  refine b_aload_n F dX4_init_67 rfl 1 rfl ?_
  refine b_getR F (c := 4) (C := RX4) (T := TX4) (N := 13) (fs := [zr G 3, zr G 50, zr G 37, zr G 53, zr G 59, zr G 60, zr G 61, zr G 62, .int 0, .int 0, .int 0, .int 0, .int 0]) rfl uw_4 4 (by decide) (Nat.le_of_ble_eq_true rfl) rfl rfl wF_X4_18 dX4_init_68 ?_
  refine b_alen4 F (N' := 4) (f := (va_up (va_up (va_up (fun _ => none) (0 : Int32).toNatClampNeg (some (G.2.2 + 63))) (1 : Int32).toNatClampNeg (some (G.2.2 + 69))) (2 : Int32).toNatClampNeg (some (G.2.2 + 75)))) (y := (4 : Int32)) (Nat.le_of_ble_eq_true rfl) rfl rfl dX4_init_71 ?_
  refine b_icmp_ge F 95 dX4_init_72 rfl (fun hc => absurd hc (by decide)) (fun _ => ?_)
  refine b_aload_n F dX4_init_75 rfl 1 rfl ?_
  refine b_getR F (c := 4) (C := RX4) (T := TX4) (N := 13) (fs := [zr G 3, zr G 50, zr G 37, zr G 53, zr G 59, zr G 60, zr G 61, zr G 62, .int 0, .int 0, .int 0, .int 0, .int 0]) rfl uw_4 4 (by decide) (Nat.le_of_ble_eq_true rfl) rfl rfl wF_X4_18 dX4_init_76 ?_
  refine b_iload F dX4_init_79 0 rfl ?_
  refine b_new F (c := 7) (C := RX7) (T := TX7) (N := 13) (fs := [.int 0, .int 0, .int 0, .int 0, .int 0, .int 0, .int 0, .int 0, .null, .null, .null, .null, .null]) tyX7 tyX7_ok rfl uw_7 zcl_X4_9 zin_RX7 ini_RX7 (by decide +kernel) ⟨Nat.le_trans (Nat.le_of_ble_eq_true rfl) hcs.1, Nat.le_trans (Nat.le_of_ble_eq_true rfl) hcs.2⟩ dX4_init_81 ?_
  refine b_dup F dX4_init_84 rfl ?_
  refine b_callIN F [] [zr G 81, .int (3 : Int32), zr G 59] (n' := 87) (kBX7_init_81 x.2.1 G _ rfl) mI_X7_init rfl wN_X4_11 mi_X7_init rfl dX4_init_85 rfl ⟨Nat.le_of_ble_eq_true rfl, Nat.le_of_ble_eq_true rfl⟩ rfl (Nat.le_of_ble_eq_true rfl) ⟨Nat.le_trans (Nat.le_of_ble_eq_true rfl) hcs.1, Nat.le_trans (Nat.le_of_ble_eq_true rfl) hcs.2⟩ ?_
  refine b_aast F (N' := 4) (f := (va_up (va_up (va_up (fun _ => none) (0 : Int32).toNatClampNeg (some (G.2.2 + 63))) (1 : Int32).toNatClampNeg (some (G.2.2 + 69))) (2 : Int32).toNatClampNeg (some (G.2.2 + 75)))) (Nat.le_of_ble_eq_true rfl) (Nat.le_of_ble_eq_true rfl) rfl rfl (vp_in_nI (n := 3) (by decide) (by decide)) dX4_init_88 ?_
  refine b_iinc F [(4, .int (4 : Int32)), (0, zr G 52), (1, zr G 3), (2, zr G 50), (3, zr G 37)] dX4_init_89 0 rfl rfl (Nat.le_of_ble_eq_true rfl) rfl ?_
  refine b_goto F 65 dX4_init_92 rfl ?_
  refine b_iload F dX4_init_65 0 rfl ?_
  refine b_aload_n F dX4_init_67 rfl 1 rfl ?_
  refine b_getR F (c := 4) (C := RX4) (T := TX4) (N := 13) (fs := [zr G 3, zr G 50, zr G 37, zr G 53, zr G 59, zr G 60, zr G 61, zr G 62, .int 0, .int 0, .int 0, .int 0, .int 0]) rfl uw_4 4 (by decide) (Nat.le_of_ble_eq_true rfl) rfl rfl wF_X4_18 dX4_init_68 ?_
  refine b_alen4 F (N' := 4) (f := (va_up (va_up (va_up (va_up (fun _ => none) (0 : Int32).toNatClampNeg (some (G.2.2 + 63))) (1 : Int32).toNatClampNeg (some (G.2.2 + 69))) (2 : Int32).toNatClampNeg (some (G.2.2 + 75))) (3 : Int32).toNatClampNeg (some (G.2.2 + 81)))) (y := (4 : Int32)) (Nat.le_of_ble_eq_true rfl) rfl rfl dX4_init_71 ?_
  refine b_icmp_ge F 95 dX4_init_72 rfl (fun _ => ?_) (fun hc => absurd (by decide) hc)
  exact b_ret F hr hk (fun _ _ => rfl) dX4_init_95

theorem zcl_X9_78 : Cond.classLink RX9 78 RX6 ∈ zTbl := zTbl_of (zin_2 (List.mem_of_getElem? (i := 83) (by decide +kernel))) rfl
theorem zin_RX6 : Cond.instantiable RX6 8 ∈ zTbl := zTbl_of (zin_2 (List.mem_of_getElem? (i := 84) (by decide +kernel))) rfl
theorem zol_X6_3 : Cond.methodLink RX6 3 objectInit ∈ zTbl := zTbl_of (zin_2 (List.mem_of_getElem? (i := 88) (by decide +kernel))) rfl
theorem zcl_X6_9 : Cond.classLink RX6 9 RX7 ∈ zTbl := zTbl_of (zin_2 (List.mem_of_getElem? (i := 89) (by decide +kernel))) rfl
def ceX7_init_88 (G : zG) (ce : Nat → va_E) : Nat → va_E := (bup (bup (bup (bup (bup (bup (bup (bup (bup (bup (bup ce 88 (.inr (7, [.int 0, .int 0, .int 0, .int 0, .int 0, .int 0, .int 0, .int 0, .null, .null, .null, .null, .null].set 0 (.int (1 : Int32))))) 89 (.inl (G.2.1 0, 13, (.inl (fun _ => 0))))) 88 (.inr (7, [.int (1 : Int32), .int 0, .int 0, .int 0, .int 0, .int 0, .int 0, .int 0, .null, .null, .null, .null, .null].set 8 (zr G 89)))) 90 (.inl (G.2.1 0, 16, (.inl (fun _ => 0))))) 88 (.inr (7, [.int (1 : Int32), .int 0, .int 0, .int 0, .int 0, .int 0, .int 0, .int 0, zr G 89, .null, .null, .null, .null].set 9 (zr G 90)))) 91 (.inl (G.2.1 0, 16, (.inl (fun _ => 0))))) 88 (.inr (7, [.int (1 : Int32), .int 0, .int 0, .int 0, .int 0, .int 0, .int 0, .int 0, zr G 89, zr G 90, .null, .null, .null].set 10 (zr G 91)))) 92 (.inl (G.2.1 0, 16, (.inl (fun _ => 0))))) 88 (.inr (7, [.int (1 : Int32), .int 0, .int 0, .int 0, .int 0, .int 0, .int 0, .int 0, zr G 89, zr G 90, zr G 91, .null, .null].set 11 (zr G 92)))) 93 (.inl (G.2.1 0, 16, (.inl (fun _ => 0))))) 88 (.inr (7, [.int (1 : Int32), .int 0, .int 0, .int 0, .int 0, .int 0, .int 0, .int 0, zr G 89, zr G 90, zr G 91, zr G 92, .null].set 12 (zr G 93))))
set_option maxRecDepth 20000 in
set_option maxHeartbeats 2000000 in
theorem kBX7_init_88 (l : Launch) (G : zG) (ce : Nat → va_E) (hc88 : ce 88 = .inr (7, [.int 0, .int 0, .int 0, .int 0, .int 0, .int 0, .int 0, .int 0, .null, .null, .null, .null, .null])) : zBM l yX7_init cX7_init 1 none 1 80 5 77 [zr G 88] G 89 ce 94 (ceX7_init_88 G ce) := by
  refine zBM_of (own := RX7) (by decide) rfl (Nat.le_of_ble_eq_true rfl) (fun x hl F hr hk hcs hini => ?_)
  subst hl
  refine b_ls [(0, zr G 88)] [0] rfl ?_
  refine b_aload_n F dX7_init_0 rfl 0 rfl ?_
  refine b_obj F zol_X7_3 zob_2 zob_3 (Nat.le_of_ble_eq_true rfl) (Nat.le_of_ble_eq_true rfl) (Nat.le_of_ble_eq_true rfl) dX7_init_1 ?_
  refine b_aload_n F dX7_init_4 rfl 0 rfl ?_
  refine b_iconst (y := (1 : Int32)) F dX7_init_5 rfl ?_
  refine b_put F (c := 7) (C := RX7) (T := TX7) (N := 13) (fs := [.int 0, .int 0, .int 0, .int 0, .int 0, .int 0, .int 0, .int 0, .null, .null, .null, .null, .null]) (ty := tyX7 0) tyX7 tyX7_ok nmX7 rfl uw_7 0 (by decide) rfl (tyX7_ok 0 (by decide)) rfl rfl (Nat.le_of_ble_eq_true rfl) hc88 (Nat.le_of_ble_eq_true rfl) wF_X7_9 dX7_init_6 ?_
  refine b_aload_n F dX7_init_9 rfl 0 rfl ?_
  refine b_bipush (y := (13 : Int32)) F dX7_init_10 rfl ?_
  refine b_newa F (atype := .int) (ty := .int) (a0 := (13, (.inl (fun _ => 0)))) 0 rfl rfl (by intro C q; cases q) zac_int (fun _ => rfl) (by decide) (by decide) (Nat.le_of_ble_eq_true rfl) ⟨Nat.le_trans (Nat.le_of_ble_eq_true rfl) hcs.1, Nat.le_trans (Nat.le_of_ble_eq_true rfl) hcs.2⟩ dX7_init_12 ?_
  refine b_putF F hini (c := 7) (C := RX7) (T := TX7) (N := 13) (fs := [.int (1 : Int32), .int 0, .int 0, .int 0, .int 0, .int 0, .int 0, .int 0, .null, .null, .null, .null, .null]) (ty := tyX7 8) tyX7 tyX7_ok nmX7 rfl uw_7 8 (by decide) rfl rfl (tyX7_ok 8 (by decide)) rfl rfl (Nat.le_of_ble_eq_true rfl) rfl (Nat.le_of_ble_eq_true rfl) wF_X7_15 dX7_init_14 ?_
  refine b_aload_n F dX7_init_17 rfl 0 rfl ?_
  refine b_bipush (y := (16 : Int32)) F dX7_init_18 rfl ?_
  refine b_newa F (atype := .int) (ty := .int) (a0 := (16, (.inl (fun _ => 0)))) 0 rfl rfl (by intro C q; cases q) zac_int (fun _ => rfl) (by decide) (by decide) (Nat.le_of_ble_eq_true rfl) ⟨Nat.le_trans (Nat.le_of_ble_eq_true rfl) hcs.1, Nat.le_trans (Nat.le_of_ble_eq_true rfl) hcs.2⟩ dX7_init_20 ?_
  refine b_putF F hini (c := 7) (C := RX7) (T := TX7) (N := 13) (fs := [.int (1 : Int32), .int 0, .int 0, .int 0, .int 0, .int 0, .int 0, .int 0, zr G 89, .null, .null, .null, .null]) (ty := tyX7 9) tyX7 tyX7_ok nmX7 rfl uw_7 9 (by decide) rfl rfl (tyX7_ok 9 (by decide)) rfl rfl (Nat.le_of_ble_eq_true rfl) rfl (Nat.le_of_ble_eq_true rfl) wF_X7_19 dX7_init_22 ?_
  refine b_aload_n F dX7_init_25 rfl 0 rfl ?_
  refine b_bipush (y := (16 : Int32)) F dX7_init_26 rfl ?_
  refine b_newa F (atype := .int) (ty := .int) (a0 := (16, (.inl (fun _ => 0)))) 0 rfl rfl (by intro C q; cases q) zac_int (fun _ => rfl) (by decide) (by decide) (Nat.le_of_ble_eq_true rfl) ⟨Nat.le_trans (Nat.le_of_ble_eq_true rfl) hcs.1, Nat.le_trans (Nat.le_of_ble_eq_true rfl) hcs.2⟩ dX7_init_28 ?_
  refine b_putF F hini (c := 7) (C := RX7) (T := TX7) (N := 13) (fs := [.int (1 : Int32), .int 0, .int 0, .int 0, .int 0, .int 0, .int 0, .int 0, zr G 89, zr G 90, .null, .null, .null]) (ty := tyX7 10) tyX7 tyX7_ok nmX7 rfl uw_7 10 (by decide) rfl rfl (tyX7_ok 10 (by decide)) rfl rfl (Nat.le_of_ble_eq_true rfl) rfl (Nat.le_of_ble_eq_true rfl) wF_X7_22 dX7_init_30 ?_
  refine b_aload_n F dX7_init_33 rfl 0 rfl ?_
  refine b_bipush (y := (16 : Int32)) F dX7_init_34 rfl ?_
  refine b_newa F (atype := .int) (ty := .int) (a0 := (16, (.inl (fun _ => 0)))) 0 rfl rfl (by intro C q; cases q) zac_int (fun _ => rfl) (by decide) (by decide) (Nat.le_of_ble_eq_true rfl) ⟨Nat.le_trans (Nat.le_of_ble_eq_true rfl) hcs.1, Nat.le_trans (Nat.le_of_ble_eq_true rfl) hcs.2⟩ dX7_init_36 ?_
  refine b_putF F hini (c := 7) (C := RX7) (T := TX7) (N := 13) (fs := [.int (1 : Int32), .int 0, .int 0, .int 0, .int 0, .int 0, .int 0, .int 0, zr G 89, zr G 90, zr G 91, .null, .null]) (ty := tyX7 11) tyX7 tyX7_ok nmX7 rfl uw_7 11 (by decide) rfl rfl (tyX7_ok 11 (by decide)) rfl rfl (Nat.le_of_ble_eq_true rfl) rfl (Nat.le_of_ble_eq_true rfl) wF_X7_25 dX7_init_38 ?_
  refine b_aload_n F dX7_init_41 rfl 0 rfl ?_
  refine b_bipush (y := (16 : Int32)) F dX7_init_42 rfl ?_
  refine b_newa F (atype := .int) (ty := .int) (a0 := (16, (.inl (fun _ => 0)))) 0 rfl rfl (by intro C q; cases q) zac_int (fun _ => rfl) (by decide) (by decide) (Nat.le_of_ble_eq_true rfl) ⟨Nat.le_trans (Nat.le_of_ble_eq_true rfl) hcs.1, Nat.le_trans (Nat.le_of_ble_eq_true rfl) hcs.2⟩ dX7_init_44 ?_
  refine b_putF F hini (c := 7) (C := RX7) (T := TX7) (N := 13) (fs := [.int (1 : Int32), .int 0, .int 0, .int 0, .int 0, .int 0, .int 0, .int 0, zr G 89, zr G 90, zr G 91, zr G 92, .null]) (ty := tyX7 12) tyX7 tyX7_ok nmX7 rfl uw_7 12 (by decide) rfl rfl (tyX7_ok 12 (by decide)) rfl rfl (Nat.le_of_ble_eq_true rfl) rfl (Nat.le_of_ble_eq_true rfl) wF_X7_28 dX7_init_46 ?_
  exact b_ret F hr hk (fun _ _ => rfl) dX7_init_49

theorem dX6_init_0 : decode cX6_init 0 = .ok (.aload_n 0, 1) := by decide +kernel
theorem dX6_init_1 : decode cX6_init 1 = .ok (.invokespecial 3, 3) := by decide +kernel
theorem dX6_init_4 : decode cX6_init 4 = .ok (.aload_n 0, 1) := by decide +kernel
theorem dX6_init_5 : decode cX6_init 5 = .ok (.new 9, 3) := by decide +kernel
theorem dX6_init_8 : decode cX6_init 8 = .ok (.dup, 1) := by decide +kernel
theorem dX6_init_9 : decode cX6_init 9 = .ok (.invokespecial 11, 3) := by decide +kernel
theorem dX6_init_12 : decode cX6_init 12 = .ok (.putfield 12, 3) := by decide +kernel
theorem dX6_init_15 : decode cX6_init 15 = .ok (.aload_n 0, 1) := by decide +kernel
theorem dX6_init_16 : decode cX6_init 16 = .ok (.bipush 61, 2) := by decide +kernel
theorem dX6_init_18 : decode cX6_init 18 = .ok (.newarray .int, 2) := by decide +kernel
theorem dX6_init_20 : decode cX6_init 20 = .ok (.putfield 18, 3) := by decide +kernel
theorem dX6_init_23 : decode cX6_init 23 = .ok (.aload_n 0, 1) := by decide +kernel
theorem dX6_init_24 : decode cX6_init 24 = .ok (.bipush 6, 2) := by decide +kernel
theorem dX6_init_26 : decode cX6_init 26 = .ok (.newarray .int, 2) := by decide +kernel
theorem dX6_init_28 : decode cX6_init 28 = .ok (.putfield 22, 3) := by decide +kernel
theorem dX6_init_31 : decode cX6_init 31 = .ok (.aload_n 0, 1) := by decide +kernel
theorem dX6_init_32 : decode cX6_init 32 = .ok (.aload_n 1, 1) := by decide +kernel
theorem dX6_init_33 : decode cX6_init 33 = .ok (.putfield 25, 3) := by decide +kernel
theorem dX6_init_36 : decode cX6_init 36 = .ok (.aload_n 0, 1) := by decide +kernel
theorem dX6_init_37 : decode cX6_init 37 = .ok (.aload_n 2, 1) := by decide +kernel
theorem dX6_init_38 : decode cX6_init 38 = .ok (.putfield 29, 3) := by decide +kernel
theorem dX6_init_41 : decode cX6_init 41 = .ok (.aload_n 0, 1) := by decide +kernel
theorem dX6_init_42 : decode cX6_init 42 = .ok (.aload_n 3, 1) := by decide +kernel
theorem dX6_init_43 : decode cX6_init 43 = .ok (.putfield 33, 3) := by decide +kernel
theorem dX6_init_46 : decode cX6_init 46 = .ok (.return_, 1) := by decide +kernel
def ceX6_init_87_3_31_50 (G : zG) (ce : Nat → va_E) : Nat → va_E := (bup (bup (bup (bup (bup (bup (bup (bup (ceX7_init_88 G (bup ce 88 (.inr (7, [.int 0, .int 0, .int 0, .int 0, .int 0, .int 0, .int 0, .int 0, .null, .null, .null, .null, .null])))) 87 (.inr (6, [.null, .null, .null, .null, .null, .null, .int 0, .int 0].set 3 (zr G 88)))) 94 (.inl (G.2.1 0, 61, (.inl (fun _ => 0))))) 87 (.inr (6, [.null, .null, .null, zr G 88, .null, .null, .int 0, .int 0].set 4 (zr G 94)))) 95 (.inl (G.2.1 0, 6, (.inl (fun _ => 0))))) 87 (.inr (6, [.null, .null, .null, zr G 88, zr G 94, .null, .int 0, .int 0].set 5 (zr G 95)))) 87 (.inr (6, [.null, .null, .null, zr G 88, zr G 94, zr G 95, .int 0, .int 0].set 0 (zr G 3)))) 87 (.inr (6, [zr G 3, .null, .null, zr G 88, zr G 94, zr G 95, .int 0, .int 0].set 1 (zr G 31)))) 87 (.inr (6, [zr G 3, zr G 31, .null, zr G 88, zr G 94, zr G 95, .int 0, .int 0].set 2 (zr G 50))))
set_option maxRecDepth 20000 in
set_option maxHeartbeats 2000000 in
theorem kBX6_init_87_3_31_50 (l : Launch) (G : zG) (ce : Nat → va_E) (hc87 : ce 87 = .inr (6, [.null, .null, .null, .null, .null, .null, .int 0, .int 0])) : zBM l yX6_init cX6_init 4 none 2 100 8 157 [zr G 87, zr G 3, zr G 31, zr G 50] G 88 ce 96 (ceX6_init_87_3_31_50 G ce) := by
  refine zBM_of (own := RX6) (by decide) rfl (Nat.le_of_ble_eq_true rfl) (fun x hl F hr hk hcs hini => ?_)
  subst hl
  refine b_ls [(0, zr G 87), (1, zr G 3), (2, zr G 31), (3, zr G 50)] [0, 1, 2, 3] rfl ?_
  refine b_aload_n F dX6_init_0 rfl 0 rfl ?_
  refine b_obj F zol_X6_3 zob_2 zob_3 (Nat.le_of_ble_eq_true rfl) (Nat.le_of_ble_eq_true rfl) (Nat.le_of_ble_eq_true rfl) dX6_init_1 ?_
  refine b_aload_n F dX6_init_4 rfl 0 rfl ?_
  refine b_new F (c := 7) (C := RX7) (T := TX7) (N := 13) (fs := [.int 0, .int 0, .int 0, .int 0, .int 0, .int 0, .int 0, .int 0, .null, .null, .null, .null, .null]) tyX7 tyX7_ok rfl uw_7 zcl_X6_9 zin_RX7 ini_RX7 (by decide +kernel) ⟨Nat.le_trans (Nat.le_of_ble_eq_true rfl) hcs.1, Nat.le_trans (Nat.le_of_ble_eq_true rfl) hcs.2⟩ dX6_init_5 ?_
  refine b_dup F dX6_init_8 rfl ?_
  refine b_callIN F [] [zr G 88, zr G 87] (n' := 94) (kBX7_init_88 x.2.1 G _ rfl) mI_X7_init rfl wN_X6_11 mi_X7_init rfl dX6_init_9 rfl ⟨Nat.le_of_ble_eq_true rfl, Nat.le_of_ble_eq_true rfl⟩ rfl (Nat.le_of_ble_eq_true rfl) ⟨Nat.le_trans (Nat.le_of_ble_eq_true rfl) hcs.1, Nat.le_trans (Nat.le_of_ble_eq_true rfl) hcs.2⟩ ?_
  refine b_putF F hini (c := 6) (C := RX6) (T := TX6) (N := 8) (fs := [.null, .null, .null, .null, .null, .null, .int 0, .int 0]) (ty := tyX6 3) tyX6 tyX6_ok nmX6 rfl uw_6 3 (by decide) rfl rfl (tyX6_ok 3 (by decide)) rfl rfl (Nat.le_of_ble_eq_true rfl) hc87 (Nat.le_of_ble_eq_true rfl) wF_X6_12 dX6_init_12 ?_
  refine b_aload_n F dX6_init_15 rfl 0 rfl ?_
  refine b_bipush (y := (61 : Int32)) F dX6_init_16 rfl ?_
  refine b_newa F (atype := .int) (ty := .int) (a0 := (61, (.inl (fun _ => 0)))) 0 rfl rfl (by intro C q; cases q) zac_int (fun _ => rfl) (by decide) (by decide) (Nat.le_of_ble_eq_true rfl) ⟨Nat.le_trans (Nat.le_of_ble_eq_true rfl) hcs.1, Nat.le_trans (Nat.le_of_ble_eq_true rfl) hcs.2⟩ dX6_init_18 ?_
  refine b_putF F hini (c := 6) (C := RX6) (T := TX6) (N := 8) (fs := [.null, .null, .null, zr G 88, .null, .null, .int 0, .int 0]) (ty := tyX6 4) tyX6 tyX6_ok nmX6 rfl uw_6 4 (by decide) rfl rfl (tyX6_ok 4 (by decide)) rfl rfl (Nat.le_of_ble_eq_true rfl) rfl (Nat.le_of_ble_eq_true rfl) wF_X6_18 dX6_init_20 ?_
  refine b_aload_n F dX6_init_23 rfl 0 rfl ?_
  refine b_bipush (y := (6 : Int32)) F dX6_init_24 rfl ?_
  refine b_newa F (atype := .int) (ty := .int) (a0 := (6, (.inl (fun _ => 0)))) 0 rfl rfl (by intro C q; cases q) zac_int (fun _ => rfl) (by decide) (by decide) (Nat.le_of_ble_eq_true rfl) ⟨Nat.le_trans (Nat.le_of_ble_eq_true rfl) hcs.1, Nat.le_trans (Nat.le_of_ble_eq_true rfl) hcs.2⟩ dX6_init_26 ?_
  refine b_putF F hini (c := 6) (C := RX6) (T := TX6) (N := 8) (fs := [.null, .null, .null, zr G 88, zr G 94, .null, .int 0, .int 0]) (ty := tyX6 5) tyX6 tyX6_ok nmX6 rfl uw_6 5 (by decide) rfl rfl (tyX6_ok 5 (by decide)) rfl rfl (Nat.le_of_ble_eq_true rfl) rfl (Nat.le_of_ble_eq_true rfl) wF_X6_22 dX6_init_28 ?_
  refine b_aload_n F dX6_init_31 rfl 0 rfl ?_
  refine b_aload_n F dX6_init_32 rfl 1 rfl ?_
  refine b_putF F hini (c := 6) (C := RX6) (T := TX6) (N := 8) (fs := [.null, .null, .null, zr G 88, zr G 94, zr G 95, .int 0, .int 0]) (ty := tyX6 0) tyX6 tyX6_ok nmX6 rfl uw_6 0 (by decide) rfl rfl (tyX6_ok 0 (by decide)) rfl rfl (Nat.le_of_ble_eq_true rfl) rfl (Nat.le_of_ble_eq_true rfl) wF_X6_25 dX6_init_33 ?_
  refine b_aload_n F dX6_init_36 rfl 0 rfl ?_
  refine b_aload_n F dX6_init_37 rfl 2 rfl ?_
  refine b_putF F hini (c := 6) (C := RX6) (T := TX6) (N := 8) (fs := [zr G 3, .null, .null, zr G 88, zr G 94, zr G 95, .int 0, .int 0]) (ty := tyX6 1) tyX6 tyX6_ok nmX6 rfl uw_6 1 (by decide) rfl rfl (tyX6_ok 1 (by decide)) rfl rfl (Nat.le_of_ble_eq_true rfl) rfl (Nat.le_of_ble_eq_true rfl) wF_X6_29 dX6_init_38 ?_
  refine b_aload_n F dX6_init_41 rfl 0 rfl ?_
  refine b_aload_n F dX6_init_42 rfl 3 rfl ?_
  refine b_putF F hini (c := 6) (C := RX6) (T := TX6) (N := 8) (fs := [zr G 3, zr G 31, .null, zr G 88, zr G 94, zr G 95, .int 0, .int 0]) (ty := tyX6 2) tyX6 tyX6_ok nmX6 rfl uw_6 2 (by decide) rfl rfl (tyX6_ok 2 (by decide)) rfl rfl (Nat.le_of_ble_eq_true rfl) rfl (Nat.le_of_ble_eq_true rfl) wF_X6_33 dX6_init_43 ?_
  exact b_ret F hr hk (fun _ _ => rfl) dX6_init_46

theorem zcl_X9_87 : Cond.classLink RX9 87 RX3 ∈ zTbl := zTbl_of (zin_2 (List.mem_of_getElem? (i := 118) (by decide +kernel))) rfl
theorem zin_RX3 : Cond.instantiable RX3 3 ∈ zTbl := zTbl_of (zin_2 (List.mem_of_getElem? (i := 119) (by decide +kernel))) rfl
theorem zol_X3_3 : Cond.methodLink RX3 3 objectInit ∈ zTbl := zTbl_of (zin_2 (List.mem_of_getElem? (i := 123) (by decide +kernel))) rfl
theorem dX3_init_0 : decode cX3_init 0 = .ok (.aload_n 0, 1) := by decide +kernel
theorem dX3_init_1 : decode cX3_init 1 = .ok (.invokespecial 3, 3) := by decide +kernel
theorem dX3_init_4 : decode cX3_init 4 = .ok (.aload_n 0, 1) := by decide +kernel
theorem dX3_init_5 : decode cX3_init 5 = .ok (.iconst 3, 1) := by decide +kernel
theorem dX3_init_6 : decode cX3_init 6 = .ok (.newarray .int, 2) := by decide +kernel
theorem dX3_init_8 : decode cX3_init 8 = .ok (.putfield 9, 3) := by decide +kernel
theorem dX3_init_11 : decode cX3_init 11 = .ok (.aload_n 0, 1) := by decide +kernel
theorem dX3_init_12 : decode cX3_init 12 = .ok (.aload_n 1, 1) := by decide +kernel
theorem dX3_init_13 : decode cX3_init 13 = .ok (.putfield 15, 3) := by decide +kernel
theorem dX3_init_16 : decode cX3_init 16 = .ok (.aload_n 0, 1) := by decide +kernel
theorem dX3_init_17 : decode cX3_init 17 = .ok (.aload_n 2, 1) := by decide +kernel
theorem dX3_init_18 : decode cX3_init 18 = .ok (.putfield 19, 3) := by decide +kernel
theorem dX3_init_21 : decode cX3_init 21 = .ok (.return_, 1) := by decide +kernel
def ceX3_init_96_3_37 (G : zG) (ce : Nat → va_E) : Nat → va_E := (bup (bup (bup (bup ce 97 (.inl (G.2.1 0, 3, (.inl (fun _ => 0))))) 96 (.inr (3, [.null, .null, .null].set 2 (zr G 97)))) 96 (.inr (3, [.null, .null, zr G 97].set 0 (zr G 3)))) 96 (.inr (3, [zr G 3, .null, zr G 97].set 1 (zr G 37))))
set_option maxRecDepth 20000 in
set_option maxHeartbeats 2000000 in
theorem kBX3_init_96_3_37 (l : Launch) (G : zG) (ce : Nat → va_E) (hc96 : ce 96 = .inr (3, [.null, .null, .null])) : zBM l yX3_init cX3_init 3 none 1 80 1 3 [zr G 96, zr G 3, zr G 37] G 97 ce 98 (ceX3_init_96_3_37 G ce) := by
  refine zBM_of (own := RX3) (by decide) rfl (Nat.le_of_ble_eq_true rfl) (fun x hl F hr hk hcs hini => ?_)
  subst hl
  refine b_ls [(0, zr G 96), (1, zr G 3), (2, zr G 37)] [0, 1, 2] rfl ?_
  refine b_aload_n F dX3_init_0 rfl 0 rfl ?_
  refine b_obj F zol_X3_3 zob_2 zob_3 (Nat.le_of_ble_eq_true rfl) (Nat.le_of_ble_eq_true rfl) (Nat.le_of_ble_eq_true rfl) dX3_init_1 ?_
  refine b_aload_n F dX3_init_4 rfl 0 rfl ?_
  refine b_iconst (y := (3 : Int32)) F dX3_init_5 rfl ?_
  refine b_newa F (atype := .int) (ty := .int) (a0 := (3, (.inl (fun _ => 0)))) 0 rfl rfl (by intro C q; cases q) zac_int (fun _ => rfl) (by decide) (by decide) (Nat.le_of_ble_eq_true rfl) ⟨Nat.le_trans (Nat.le_of_ble_eq_true rfl) hcs.1, Nat.le_trans (Nat.le_of_ble_eq_true rfl) hcs.2⟩ dX3_init_6 ?_
  refine b_putF F hini (c := 3) (C := RX3) (T := TX3) (N := 3) (fs := [.null, .null, .null]) (ty := tyX3 2) tyX3 tyX3_ok nmX3 rfl uw_3 2 (by decide) rfl rfl (tyX3_ok 2 (by decide)) rfl rfl (Nat.le_of_ble_eq_true rfl) hc96 (Nat.le_of_ble_eq_true rfl) wF_X3_9 dX3_init_8 ?_
  refine b_aload_n F dX3_init_11 rfl 0 rfl ?_
  refine b_aload_n F dX3_init_12 rfl 1 rfl ?_
  refine b_putF F hini (c := 3) (C := RX3) (T := TX3) (N := 3) (fs := [.null, .null, zr G 97]) (ty := tyX3 0) tyX3 tyX3_ok nmX3 rfl uw_3 0 (by decide) rfl rfl (tyX3_ok 0 (by decide)) rfl rfl (Nat.le_of_ble_eq_true rfl) rfl (Nat.le_of_ble_eq_true rfl) wF_X3_15 dX3_init_13 ?_
  refine b_aload_n F dX3_init_16 rfl 0 rfl ?_
  refine b_aload_n F dX3_init_17 rfl 2 rfl ?_
  refine b_putF F hini (c := 3) (C := RX3) (T := TX3) (N := 3) (fs := [zr G 3, .null, zr G 97]) (ty := tyX3 1) tyX3 tyX3_ok nmX3 rfl uw_3 1 (by decide) rfl rfl (tyX3_ok 1 (by decide)) rfl rfl (Nat.le_of_ble_eq_true rfl) rfl (Nat.le_of_ble_eq_true rfl) wF_X3_19 dX3_init_18 ?_
  exact b_ret F hr hk (fun _ _ => rfl) dX3_init_21

def ceX7_init_98 (G : zG) (ce : Nat → va_E) : Nat → va_E := (bup (bup (bup (bup (bup (bup (bup (bup (bup (bup (bup ce 98 (.inr (7, [.int 0, .int 0, .int 0, .int 0, .int 0, .int 0, .int 0, .int 0, .null, .null, .null, .null, .null].set 0 (.int (1 : Int32))))) 99 (.inl (G.2.1 0, 13, (.inl (fun _ => 0))))) 98 (.inr (7, [.int (1 : Int32), .int 0, .int 0, .int 0, .int 0, .int 0, .int 0, .int 0, .null, .null, .null, .null, .null].set 8 (zr G 99)))) 100 (.inl (G.2.1 0, 16, (.inl (fun _ => 0))))) 98 (.inr (7, [.int (1 : Int32), .int 0, .int 0, .int 0, .int 0, .int 0, .int 0, .int 0, zr G 99, .null, .null, .null, .null].set 9 (zr G 100)))) 101 (.inl (G.2.1 0, 16, (.inl (fun _ => 0))))) 98 (.inr (7, [.int (1 : Int32), .int 0, .int 0, .int 0, .int 0, .int 0, .int 0, .int 0, zr G 99, zr G 100, .null, .null, .null].set 10 (zr G 101)))) 102 (.inl (G.2.1 0, 16, (.inl (fun _ => 0))))) 98 (.inr (7, [.int (1 : Int32), .int 0, .int 0, .int 0, .int 0, .int 0, .int 0, .int 0, zr G 99, zr G 100, zr G 101, .null, .null].set 11 (zr G 102)))) 103 (.inl (G.2.1 0, 16, (.inl (fun _ => 0))))) 98 (.inr (7, [.int (1 : Int32), .int 0, .int 0, .int 0, .int 0, .int 0, .int 0, .int 0, zr G 99, zr G 100, zr G 101, zr G 102, .null].set 12 (zr G 103))))
set_option maxRecDepth 20000 in
set_option maxHeartbeats 2000000 in
theorem kBX7_init_98 (l : Launch) (G : zG) (ce : Nat → va_E) (hc98 : ce 98 = .inr (7, [.int 0, .int 0, .int 0, .int 0, .int 0, .int 0, .int 0, .int 0, .null, .null, .null, .null, .null])) : zBM l yX7_init cX7_init 1 none 1 80 5 77 [zr G 98] G 99 ce 104 (ceX7_init_98 G ce) := by
  refine zBM_of (own := RX7) (by decide) rfl (Nat.le_of_ble_eq_true rfl) (fun x hl F hr hk hcs hini => ?_)
  subst hl
  refine b_ls [(0, zr G 98)] [0] rfl ?_
  refine b_aload_n F dX7_init_0 rfl 0 rfl ?_
  refine b_obj F zol_X7_3 zob_2 zob_3 (Nat.le_of_ble_eq_true rfl) (Nat.le_of_ble_eq_true rfl) (Nat.le_of_ble_eq_true rfl) dX7_init_1 ?_
  refine b_aload_n F dX7_init_4 rfl 0 rfl ?_
  refine b_iconst (y := (1 : Int32)) F dX7_init_5 rfl ?_
  refine b_put F (c := 7) (C := RX7) (T := TX7) (N := 13) (fs := [.int 0, .int 0, .int 0, .int 0, .int 0, .int 0, .int 0, .int 0, .null, .null, .null, .null, .null]) (ty := tyX7 0) tyX7 tyX7_ok nmX7 rfl uw_7 0 (by decide) rfl (tyX7_ok 0 (by decide)) rfl rfl (Nat.le_of_ble_eq_true rfl) hc98 (Nat.le_of_ble_eq_true rfl) wF_X7_9 dX7_init_6 ?_
  refine b_aload_n F dX7_init_9 rfl 0 rfl ?_
  refine b_bipush (y := (13 : Int32)) F dX7_init_10 rfl ?_
  refine b_newa F (atype := .int) (ty := .int) (a0 := (13, (.inl (fun _ => 0)))) 0 rfl rfl (by intro C q; cases q) zac_int (fun _ => rfl) (by decide) (by decide) (Nat.le_of_ble_eq_true rfl) ⟨Nat.le_trans (Nat.le_of_ble_eq_true rfl) hcs.1, Nat.le_trans (Nat.le_of_ble_eq_true rfl) hcs.2⟩ dX7_init_12 ?_
  refine b_putF F hini (c := 7) (C := RX7) (T := TX7) (N := 13) (fs := [.int (1 : Int32), .int 0, .int 0, .int 0, .int 0, .int 0, .int 0, .int 0, .null, .null, .null, .null, .null]) (ty := tyX7 8) tyX7 tyX7_ok nmX7 rfl uw_7 8 (by decide) rfl rfl (tyX7_ok 8 (by decide)) rfl rfl (Nat.le_of_ble_eq_true rfl) rfl (Nat.le_of_ble_eq_true rfl) wF_X7_15 dX7_init_14 ?_
  refine b_aload_n F dX7_init_17 rfl 0 rfl ?_
  refine b_bipush (y := (16 : Int32)) F dX7_init_18 rfl ?_
  refine b_newa F (atype := .int) (ty := .int) (a0 := (16, (.inl (fun _ => 0)))) 0 rfl rfl (by intro C q; cases q) zac_int (fun _ => rfl) (by decide) (by decide) (Nat.le_of_ble_eq_true rfl) ⟨Nat.le_trans (Nat.le_of_ble_eq_true rfl) hcs.1, Nat.le_trans (Nat.le_of_ble_eq_true rfl) hcs.2⟩ dX7_init_20 ?_
  refine b_putF F hini (c := 7) (C := RX7) (T := TX7) (N := 13) (fs := [.int (1 : Int32), .int 0, .int 0, .int 0, .int 0, .int 0, .int 0, .int 0, zr G 99, .null, .null, .null, .null]) (ty := tyX7 9) tyX7 tyX7_ok nmX7 rfl uw_7 9 (by decide) rfl rfl (tyX7_ok 9 (by decide)) rfl rfl (Nat.le_of_ble_eq_true rfl) rfl (Nat.le_of_ble_eq_true rfl) wF_X7_19 dX7_init_22 ?_
  refine b_aload_n F dX7_init_25 rfl 0 rfl ?_
  refine b_bipush (y := (16 : Int32)) F dX7_init_26 rfl ?_
  refine b_newa F (atype := .int) (ty := .int) (a0 := (16, (.inl (fun _ => 0)))) 0 rfl rfl (by intro C q; cases q) zac_int (fun _ => rfl) (by decide) (by decide) (Nat.le_of_ble_eq_true rfl) ⟨Nat.le_trans (Nat.le_of_ble_eq_true rfl) hcs.1, Nat.le_trans (Nat.le_of_ble_eq_true rfl) hcs.2⟩ dX7_init_28 ?_
  refine b_putF F hini (c := 7) (C := RX7) (T := TX7) (N := 13) (fs := [.int (1 : Int32), .int 0, .int 0, .int 0, .int 0, .int 0, .int 0, .int 0, zr G 99, zr G 100, .null, .null, .null]) (ty := tyX7 10) tyX7 tyX7_ok nmX7 rfl uw_7 10 (by decide) rfl rfl (tyX7_ok 10 (by decide)) rfl rfl (Nat.le_of_ble_eq_true rfl) rfl (Nat.le_of_ble_eq_true rfl) wF_X7_22 dX7_init_30 ?_
  refine b_aload_n F dX7_init_33 rfl 0 rfl ?_
  refine b_bipush (y := (16 : Int32)) F dX7_init_34 rfl ?_
  refine b_newa F (atype := .int) (ty := .int) (a0 := (16, (.inl (fun _ => 0)))) 0 rfl rfl (by intro C q; cases q) zac_int (fun _ => rfl) (by decide) (by decide) (Nat.le_of_ble_eq_true rfl) ⟨Nat.le_trans (Nat.le_of_ble_eq_true rfl) hcs.1, Nat.le_trans (Nat.le_of_ble_eq_true rfl) hcs.2⟩ dX7_init_36 ?_
  refine b_putF F hini (c := 7) (C := RX7) (T := TX7) (N := 13) (fs := [.int (1 : Int32), .int 0, .int 0, .int 0, .int 0, .int 0, .int 0, .int 0, zr G 99, zr G 100, zr G 101, .null, .null]) (ty := tyX7 11) tyX7 tyX7_ok nmX7 rfl uw_7 11 (by decide) rfl rfl (tyX7_ok 11 (by decide)) rfl rfl (Nat.le_of_ble_eq_true rfl) rfl (Nat.le_of_ble_eq_true rfl) wF_X7_25 dX7_init_38 ?_
  refine b_aload_n F dX7_init_41 rfl 0 rfl ?_
  refine b_bipush (y := (16 : Int32)) F dX7_init_42 rfl ?_
  refine b_newa F (atype := .int) (ty := .int) (a0 := (16, (.inl (fun _ => 0)))) 0 rfl rfl (by intro C q; cases q) zac_int (fun _ => rfl) (by decide) (by decide) (Nat.le_of_ble_eq_true rfl) ⟨Nat.le_trans (Nat.le_of_ble_eq_true rfl) hcs.1, Nat.le_trans (Nat.le_of_ble_eq_true rfl) hcs.2⟩ dX7_init_44 ?_
  refine b_putF F hini (c := 7) (C := RX7) (T := TX7) (N := 13) (fs := [.int (1 : Int32), .int 0, .int 0, .int 0, .int 0, .int 0, .int 0, .int 0, zr G 99, zr G 100, zr G 101, zr G 102, .null]) (ty := tyX7 12) tyX7 tyX7_ok nmX7 rfl uw_7 12 (by decide) rfl rfl (tyX7_ok 12 (by decide)) rfl rfl (Nat.le_of_ble_eq_true rfl) rfl (Nat.le_of_ble_eq_true rfl) wF_X7_28 dX7_init_46 ?_
  exact b_ret F hr hk (fun _ _ => rfl) dX7_init_49

def ceX7_init_104 (G : zG) (ce : Nat → va_E) : Nat → va_E := (bup (bup (bup (bup (bup (bup (bup (bup (bup (bup (bup ce 104 (.inr (7, [.int 0, .int 0, .int 0, .int 0, .int 0, .int 0, .int 0, .int 0, .null, .null, .null, .null, .null].set 0 (.int (1 : Int32))))) 105 (.inl (G.2.1 0, 13, (.inl (fun _ => 0))))) 104 (.inr (7, [.int (1 : Int32), .int 0, .int 0, .int 0, .int 0, .int 0, .int 0, .int 0, .null, .null, .null, .null, .null].set 8 (zr G 105)))) 106 (.inl (G.2.1 0, 16, (.inl (fun _ => 0))))) 104 (.inr (7, [.int (1 : Int32), .int 0, .int 0, .int 0, .int 0, .int 0, .int 0, .int 0, zr G 105, .null, .null, .null, .null].set 9 (zr G 106)))) 107 (.inl (G.2.1 0, 16, (.inl (fun _ => 0))))) 104 (.inr (7, [.int (1 : Int32), .int 0, .int 0, .int 0, .int 0, .int 0, .int 0, .int 0, zr G 105, zr G 106, .null, .null, .null].set 10 (zr G 107)))) 108 (.inl (G.2.1 0, 16, (.inl (fun _ => 0))))) 104 (.inr (7, [.int (1 : Int32), .int 0, .int 0, .int 0, .int 0, .int 0, .int 0, .int 0, zr G 105, zr G 106, zr G 107, .null, .null].set 11 (zr G 108)))) 109 (.inl (G.2.1 0, 16, (.inl (fun _ => 0))))) 104 (.inr (7, [.int (1 : Int32), .int 0, .int 0, .int 0, .int 0, .int 0, .int 0, .int 0, zr G 105, zr G 106, zr G 107, zr G 108, .null].set 12 (zr G 109))))
set_option maxRecDepth 20000 in
set_option maxHeartbeats 2000000 in
theorem kBX7_init_104 (l : Launch) (G : zG) (ce : Nat → va_E) (hc104 : ce 104 = .inr (7, [.int 0, .int 0, .int 0, .int 0, .int 0, .int 0, .int 0, .int 0, .null, .null, .null, .null, .null])) : zBM l yX7_init cX7_init 1 none 1 80 5 77 [zr G 104] G 105 ce 110 (ceX7_init_104 G ce) := by
  refine zBM_of (own := RX7) (by decide) rfl (Nat.le_of_ble_eq_true rfl) (fun x hl F hr hk hcs hini => ?_)
  subst hl
  refine b_ls [(0, zr G 104)] [0] rfl ?_
  refine b_aload_n F dX7_init_0 rfl 0 rfl ?_
  refine b_obj F zol_X7_3 zob_2 zob_3 (Nat.le_of_ble_eq_true rfl) (Nat.le_of_ble_eq_true rfl) (Nat.le_of_ble_eq_true rfl) dX7_init_1 ?_
  refine b_aload_n F dX7_init_4 rfl 0 rfl ?_
  refine b_iconst (y := (1 : Int32)) F dX7_init_5 rfl ?_
  refine b_put F (c := 7) (C := RX7) (T := TX7) (N := 13) (fs := [.int 0, .int 0, .int 0, .int 0, .int 0, .int 0, .int 0, .int 0, .null, .null, .null, .null, .null]) (ty := tyX7 0) tyX7 tyX7_ok nmX7 rfl uw_7 0 (by decide) rfl (tyX7_ok 0 (by decide)) rfl rfl (Nat.le_of_ble_eq_true rfl) hc104 (Nat.le_of_ble_eq_true rfl) wF_X7_9 dX7_init_6 ?_
  refine b_aload_n F dX7_init_9 rfl 0 rfl ?_
  refine b_bipush (y := (13 : Int32)) F dX7_init_10 rfl ?_
  refine b_newa F (atype := .int) (ty := .int) (a0 := (13, (.inl (fun _ => 0)))) 0 rfl rfl (by intro C q; cases q) zac_int (fun _ => rfl) (by decide) (by decide) (Nat.le_of_ble_eq_true rfl) ⟨Nat.le_trans (Nat.le_of_ble_eq_true rfl) hcs.1, Nat.le_trans (Nat.le_of_ble_eq_true rfl) hcs.2⟩ dX7_init_12 ?_
  refine b_putF F hini (c := 7) (C := RX7) (T := TX7) (N := 13) (fs := [.int (1 : Int32), .int 0, .int 0, .int 0, .int 0, .int 0, .int 0, .int 0, .null, .null, .null, .null, .null]) (ty := tyX7 8) tyX7 tyX7_ok nmX7 rfl uw_7 8 (by decide) rfl rfl (tyX7_ok 8 (by decide)) rfl rfl (Nat.le_of_ble_eq_true rfl) rfl (Nat.le_of_ble_eq_true rfl) wF_X7_15 dX7_init_14 ?_
  refine b_aload_n F dX7_init_17 rfl 0 rfl ?_
  refine b_bipush (y := (16 : Int32)) F dX7_init_18 rfl ?_
  refine b_newa F (atype := .int) (ty := .int) (a0 := (16, (.inl (fun _ => 0)))) 0 rfl rfl (by intro C q; cases q) zac_int (fun _ => rfl) (by decide) (by decide) (Nat.le_of_ble_eq_true rfl) ⟨Nat.le_trans (Nat.le_of_ble_eq_true rfl) hcs.1, Nat.le_trans (Nat.le_of_ble_eq_true rfl) hcs.2⟩ dX7_init_20 ?_
  refine b_putF F hini (c := 7) (C := RX7) (T := TX7) (N := 13) (fs := [.int (1 : Int32), .int 0, .int 0, .int 0, .int 0, .int 0, .int 0, .int 0, zr G 105, .null, .null, .null, .null]) (ty := tyX7 9) tyX7 tyX7_ok nmX7 rfl uw_7 9 (by decide) rfl rfl (tyX7_ok 9 (by decide)) rfl rfl (Nat.le_of_ble_eq_true rfl) rfl (Nat.le_of_ble_eq_true rfl) wF_X7_19 dX7_init_22 ?_
  refine b_aload_n F dX7_init_25 rfl 0 rfl ?_
  refine b_bipush (y := (16 : Int32)) F dX7_init_26 rfl ?_
  refine b_newa F (atype := .int) (ty := .int) (a0 := (16, (.inl (fun _ => 0)))) 0 rfl rfl (by intro C q; cases q) zac_int (fun _ => rfl) (by decide) (by decide) (Nat.le_of_ble_eq_true rfl) ⟨Nat.le_trans (Nat.le_of_ble_eq_true rfl) hcs.1, Nat.le_trans (Nat.le_of_ble_eq_true rfl) hcs.2⟩ dX7_init_28 ?_
  refine b_putF F hini (c := 7) (C := RX7) (T := TX7) (N := 13) (fs := [.int (1 : Int32), .int 0, .int 0, .int 0, .int 0, .int 0, .int 0, .int 0, zr G 105, zr G 106, .null, .null, .null]) (ty := tyX7 10) tyX7 tyX7_ok nmX7 rfl uw_7 10 (by decide) rfl rfl (tyX7_ok 10 (by decide)) rfl rfl (Nat.le_of_ble_eq_true rfl) rfl (Nat.le_of_ble_eq_true rfl) wF_X7_22 dX7_init_30 ?_
  refine b_aload_n F dX7_init_33 rfl 0 rfl ?_
  refine b_bipush (y := (16 : Int32)) F dX7_init_34 rfl ?_
  refine b_newa F (atype := .int) (ty := .int) (a0 := (16, (.inl (fun _ => 0)))) 0 rfl rfl (by intro C q; cases q) zac_int (fun _ => rfl) (by decide) (by decide) (Nat.le_of_ble_eq_true rfl) ⟨Nat.le_trans (Nat.le_of_ble_eq_true rfl) hcs.1, Nat.le_trans (Nat.le_of_ble_eq_true rfl) hcs.2⟩ dX7_init_36 ?_
  refine b_putF F hini (c := 7) (C := RX7) (T := TX7) (N := 13) (fs := [.int (1 : Int32), .int 0, .int 0, .int 0, .int 0, .int 0, .int 0, .int 0, zr G 105, zr G 106, zr G 107, .null, .null]) (ty := tyX7 11) tyX7 tyX7_ok nmX7 rfl uw_7 11 (by decide) rfl rfl (tyX7_ok 11 (by decide)) rfl rfl (Nat.le_of_ble_eq_true rfl) rfl (Nat.le_of_ble_eq_true rfl) wF_X7_25 dX7_init_38 ?_
  refine b_aload_n F dX7_init_41 rfl 0 rfl ?_
  refine b_bipush (y := (16 : Int32)) F dX7_init_42 rfl ?_
  refine b_newa F (atype := .int) (ty := .int) (a0 := (16, (.inl (fun _ => 0)))) 0 rfl rfl (by intro C q; cases q) zac_int (fun _ => rfl) (by decide) (by decide) (Nat.le_of_ble_eq_true rfl) ⟨Nat.le_trans (Nat.le_of_ble_eq_true rfl) hcs.1, Nat.le_trans (Nat.le_of_ble_eq_true rfl) hcs.2⟩ dX7_init_44 ?_
  refine b_putF F hini (c := 7) (C := RX7) (T := TX7) (N := 13) (fs := [.int (1 : Int32), .int 0, .int 0, .int 0, .int 0, .int 0, .int 0, .int 0, zr G 105, zr G 106, zr G 107, zr G 108, .null]) (ty := tyX7 12) tyX7 tyX7_ok nmX7 rfl uw_7 12 (by decide) rfl rfl (tyX7_ok 12 (by decide)) rfl rfl (Nat.le_of_ble_eq_true rfl) rfl (Nat.le_of_ble_eq_true rfl) wF_X7_28 dX7_init_46 ?_
  exact b_ret F hr hk (fun _ _ => rfl) dX7_init_49

def ceX7_init_110 (G : zG) (ce : Nat → va_E) : Nat → va_E := (bup (bup (bup (bup (bup (bup (bup (bup (bup (bup (bup ce 110 (.inr (7, [.int 0, .int 0, .int 0, .int 0, .int 0, .int 0, .int 0, .int 0, .null, .null, .null, .null, .null].set 0 (.int (1 : Int32))))) 111 (.inl (G.2.1 0, 13, (.inl (fun _ => 0))))) 110 (.inr (7, [.int (1 : Int32), .int 0, .int 0, .int 0, .int 0, .int 0, .int 0, .int 0, .null, .null, .null, .null, .null].set 8 (zr G 111)))) 112 (.inl (G.2.1 0, 16, (.inl (fun _ => 0))))) 110 (.inr (7, [.int (1 : Int32), .int 0, .int 0, .int 0, .int 0, .int 0, .int 0, .int 0, zr G 111, .null, .null, .null, .null].set 9 (zr G 112)))) 113 (.inl (G.2.1 0, 16, (.inl (fun _ => 0))))) 110 (.inr (7, [.int (1 : Int32), .int 0, .int 0, .int 0, .int 0, .int 0, .int 0, .int 0, zr G 111, zr G 112, .null, .null, .null].set 10 (zr G 113)))) 114 (.inl (G.2.1 0, 16, (.inl (fun _ => 0))))) 110 (.inr (7, [.int (1 : Int32), .int 0, .int 0, .int 0, .int 0, .int 0, .int 0, .int 0, zr G 111, zr G 112, zr G 113, .null, .null].set 11 (zr G 114)))) 115 (.inl (G.2.1 0, 16, (.inl (fun _ => 0))))) 110 (.inr (7, [.int (1 : Int32), .int 0, .int 0, .int 0, .int 0, .int 0, .int 0, .int 0, zr G 111, zr G 112, zr G 113, zr G 114, .null].set 12 (zr G 115))))
set_option maxRecDepth 20000 in
set_option maxHeartbeats 2000000 in
theorem kBX7_init_110 (l : Launch) (G : zG) (ce : Nat → va_E) (hc110 : ce 110 = .inr (7, [.int 0, .int 0, .int 0, .int 0, .int 0, .int 0, .int 0, .int 0, .null, .null, .null, .null, .null])) : zBM l yX7_init cX7_init 1 none 1 80 5 77 [zr G 110] G 111 ce 116 (ceX7_init_110 G ce) := by
  refine zBM_of (own := RX7) (by decide) rfl (Nat.le_of_ble_eq_true rfl) (fun x hl F hr hk hcs hini => ?_)
  subst hl
  refine b_ls [(0, zr G 110)] [0] rfl ?_
  refine b_aload_n F dX7_init_0 rfl 0 rfl ?_
  refine b_obj F zol_X7_3 zob_2 zob_3 (Nat.le_of_ble_eq_true rfl) (Nat.le_of_ble_eq_true rfl) (Nat.le_of_ble_eq_true rfl) dX7_init_1 ?_
  refine b_aload_n F dX7_init_4 rfl 0 rfl ?_
  refine b_iconst (y := (1 : Int32)) F dX7_init_5 rfl ?_
  refine b_put F (c := 7) (C := RX7) (T := TX7) (N := 13) (fs := [.int 0, .int 0, .int 0, .int 0, .int 0, .int 0, .int 0, .int 0, .null, .null, .null, .null, .null]) (ty := tyX7 0) tyX7 tyX7_ok nmX7 rfl uw_7 0 (by decide) rfl (tyX7_ok 0 (by decide)) rfl rfl (Nat.le_of_ble_eq_true rfl) hc110 (Nat.le_of_ble_eq_true rfl) wF_X7_9 dX7_init_6 ?_
  refine b_aload_n F dX7_init_9 rfl 0 rfl ?_
  refine b_bipush (y := (13 : Int32)) F dX7_init_10 rfl ?_
  refine b_newa F (atype := .int) (ty := .int) (a0 := (13, (.inl (fun _ => 0)))) 0 rfl rfl (by intro C q; cases q) zac_int (fun _ => rfl) (by decide) (by decide) (Nat.le_of_ble_eq_true rfl) ⟨Nat.le_trans (Nat.le_of_ble_eq_true rfl) hcs.1, Nat.le_trans (Nat.le_of_ble_eq_true rfl) hcs.2⟩ dX7_init_12 ?_
  refine b_putF F hini (c := 7) (C := RX7) (T := TX7) (N := 13) (fs := [.int (1 : Int32), .int 0, .int 0, .int 0, .int 0, .int 0, .int 0, .int 0, .null, .null, .null, .null, .null]) (ty := tyX7 8) tyX7 tyX7_ok nmX7 rfl uw_7 8 (by decide) rfl rfl (tyX7_ok 8 (by decide)) rfl rfl (Nat.le_of_ble_eq_true rfl) rfl (Nat.le_of_ble_eq_true rfl) wF_X7_15 dX7_init_14 ?_
  refine b_aload_n F dX7_init_17 rfl 0 rfl ?_
  refine b_bipush (y := (16 : Int32)) F dX7_init_18 rfl ?_
  refine b_newa F (atype := .int) (ty := .int) (a0 := (16, (.inl (fun _ => 0)))) 0 rfl rfl (by intro C q; cases q) zac_int (fun _ => rfl) (by decide) (by decide) (Nat.le_of_ble_eq_true rfl) ⟨Nat.le_trans (Nat.le_of_ble_eq_true rfl) hcs.1, Nat.le_trans (Nat.le_of_ble_eq_true rfl) hcs.2⟩ dX7_init_20 ?_
  refine b_putF F hini (c := 7) (C := RX7) (T := TX7) (N := 13) (fs := [.int (1 : Int32), .int 0, .int 0, .int 0, .int 0, .int 0, .int 0, .int 0, zr G 111, .null, .null, .null, .null]) (ty := tyX7 9) tyX7 tyX7_ok nmX7 rfl uw_7 9 (by decide) rfl rfl (tyX7_ok 9 (by decide)) rfl rfl (Nat.le_of_ble_eq_true rfl) rfl (Nat.le_of_ble_eq_true rfl) wF_X7_19 dX7_init_22 ?_
  refine b_aload_n F dX7_init_25 rfl 0 rfl ?_
  refine b_bipush (y := (16 : Int32)) F dX7_init_26 rfl ?_
  refine b_newa F (atype := .int) (ty := .int) (a0 := (16, (.inl (fun _ => 0)))) 0 rfl rfl (by intro C q; cases q) zac_int (fun _ => rfl) (by decide) (by decide) (Nat.le_of_ble_eq_true rfl) ⟨Nat.le_trans (Nat.le_of_ble_eq_true rfl) hcs.1, Nat.le_trans (Nat.le_of_ble_eq_true rfl) hcs.2⟩ dX7_init_28 ?_
  refine b_putF F hini (c := 7) (C := RX7) (T := TX7) (N := 13) (fs := [.int (1 : Int32), .int 0, .int 0, .int 0, .int 0, .int 0, .int 0, .int 0, zr G 111, zr G 112, .null, .null, .null]) (ty := tyX7 10) tyX7 tyX7_ok nmX7 rfl uw_7 10 (by decide) rfl rfl (tyX7_ok 10 (by decide)) rfl rfl (Nat.le_of_ble_eq_true rfl) rfl (Nat.le_of_ble_eq_true rfl) wF_X7_22 dX7_init_30 ?_
  refine b_aload_n F dX7_init_33 rfl 0 rfl ?_
  refine b_bipush (y := (16 : Int32)) F dX7_init_34 rfl ?_
  refine b_newa F (atype := .int) (ty := .int) (a0 := (16, (.inl (fun _ => 0)))) 0 rfl rfl (by intro C q; cases q) zac_int (fun _ => rfl) (by decide) (by decide) (Nat.le_of_ble_eq_true rfl) ⟨Nat.le_trans (Nat.le_of_ble_eq_true rfl) hcs.1, Nat.le_trans (Nat.le_of_ble_eq_true rfl) hcs.2⟩ dX7_init_36 ?_
  refine b_putF F hini (c := 7) (C := RX7) (T := TX7) (N := 13) (fs := [.int (1 : Int32), .int 0, .int 0, .int 0, .int 0, .int 0, .int 0, .int 0, zr G 111, zr G 112, zr G 113, .null, .null]) (ty := tyX7 11) tyX7 tyX7_ok nmX7 rfl uw_7 11 (by decide) rfl rfl (tyX7_ok 11 (by decide)) rfl rfl (Nat.le_of_ble_eq_true rfl) rfl (Nat.le_of_ble_eq_true rfl) wF_X7_25 dX7_init_38 ?_
  refine b_aload_n F dX7_init_41 rfl 0 rfl ?_
  refine b_bipush (y := (16 : Int32)) F dX7_init_42 rfl ?_
  refine b_newa F (atype := .int) (ty := .int) (a0 := (16, (.inl (fun _ => 0)))) 0 rfl rfl (by intro C q; cases q) zac_int (fun _ => rfl) (by decide) (by decide) (Nat.le_of_ble_eq_true rfl) ⟨Nat.le_trans (Nat.le_of_ble_eq_true rfl) hcs.1, Nat.le_trans (Nat.le_of_ble_eq_true rfl) hcs.2⟩ dX7_init_44 ?_
  refine b_putF F hini (c := 7) (C := RX7) (T := TX7) (N := 13) (fs := [.int (1 : Int32), .int 0, .int 0, .int 0, .int 0, .int 0, .int 0, .int 0, zr G 111, zr G 112, zr G 113, zr G 114, .null]) (ty := tyX7 12) tyX7 tyX7_ok nmX7 rfl uw_7 12 (by decide) rfl rfl (tyX7_ok 12 (by decide)) rfl rfl (Nat.le_of_ble_eq_true rfl) rfl (Nat.le_of_ble_eq_true rfl) wF_X7_28 dX7_init_46 ?_
  exact b_ret F hr hk (fun _ _ => rfl) dX7_init_49

theorem dX9_init_0 : decode cX9_init 0 = .ok (.aload_n 0, 1) := by decide +kernel
theorem dX9_init_1 : decode cX9_init 1 = .ok (.invokespecial 1, 3) := by decide +kernel
theorem dX9_init_4 : decode cX9_init 4 = .ok (.aload_n 0, 1) := by decide +kernel
theorem dX9_init_5 : decode cX9_init 5 = .ok (.new 7, 3) := by decide +kernel
theorem dX9_init_8 : decode cX9_init 8 = .ok (.dup, 1) := by decide +kernel
theorem dX9_init_9 : decode cX9_init 9 = .ok (.invokespecial 9, 3) := by decide +kernel
theorem dX9_init_12 : decode cX9_init 12 = .ok (.putfield 10, 3) := by decide +kernel
theorem dX9_init_15 : decode cX9_init 15 = .ok (.aload_n 0, 1) := by decide +kernel
theorem dX9_init_16 : decode cX9_init 16 = .ok (.new 16, 3) := by decide +kernel
theorem dX9_init_19 : decode cX9_init 19 = .ok (.dup, 1) := by decide +kernel
theorem dX9_init_20 : decode cX9_init 20 = .ok (.invokespecial 18, 3) := by decide +kernel
theorem dX9_init_23 : decode cX9_init 23 = .ok (.putfield 19, 3) := by decide +kernel
theorem dX9_init_26 : decode cX9_init 26 = .ok (.aload_n 0, 1) := by decide +kernel
theorem dX9_init_27 : decode cX9_init 27 = .ok (.new 16, 3) := by decide +kernel
theorem dX9_init_30 : decode cX9_init 30 = .ok (.dup, 1) := by decide +kernel
theorem dX9_init_31 : decode cX9_init 31 = .ok (.invokespecial 18, 3) := by decide +kernel
theorem dX9_init_34 : decode cX9_init 34 = .ok (.putfield 23, 3) := by decide +kernel
theorem dX9_init_37 : decode cX9_init 37 = .ok (.aload_n 0, 1) := by decide +kernel
theorem dX9_init_38 : decode cX9_init 38 = .ok (.new 26, 3) := by decide +kernel
theorem dX9_init_41 : decode cX9_init 41 = .ok (.dup, 1) := by decide +kernel
theorem dX9_init_42 : decode cX9_init 42 = .ok (.invokespecial 28, 3) := by decide +kernel
theorem dX9_init_45 : decode cX9_init 45 = .ok (.putfield 29, 3) := by decide +kernel
theorem dX9_init_48 : decode cX9_init 48 = .ok (.aload_n 0, 1) := by decide +kernel
theorem dX9_init_49 : decode cX9_init 49 = .ok (.new 26, 3) := by decide +kernel
theorem dX9_init_52 : decode cX9_init 52 = .ok (.dup, 1) := by decide +kernel
theorem dX9_init_53 : decode cX9_init 53 = .ok (.invokespecial 28, 3) := by decide +kernel
theorem dX9_init_56 : decode cX9_init 56 = .ok (.putfield 33, 3) := by decide +kernel
theorem dX9_init_59 : decode cX9_init 59 = .ok (.aload_n 0, 1) := by decide +kernel
theorem dX9_init_60 : decode cX9_init 60 = .ok (.new 36, 3) := by decide +kernel
theorem dX9_init_63 : decode cX9_init 63 = .ok (.dup, 1) := by decide +kernel
theorem dX9_init_64 : decode cX9_init 64 = .ok (.invokespecial 38, 3) := by decide +kernel
theorem dX9_init_67 : decode cX9_init 67 = .ok (.putfield 39, 3) := by decide +kernel
theorem dX9_init_70 : decode cX9_init 70 = .ok (.aload_n 0, 1) := by decide +kernel
theorem dX9_init_71 : decode cX9_init 71 = .ok (.new 36, 3) := by decide +kernel
theorem dX9_init_74 : decode cX9_init 74 = .ok (.dup, 1) := by decide +kernel
theorem dX9_init_75 : decode cX9_init 75 = .ok (.invokespecial 38, 3) := by decide +kernel
theorem dX9_init_78 : decode cX9_init 78 = .ok (.putfield 43, 3) := by decide +kernel
theorem dX9_init_81 : decode cX9_init 81 = .ok (.aload_n 0, 1) := by decide +kernel
theorem dX9_init_82 : decode cX9_init 82 = .ok (.new 46, 3) := by decide +kernel
theorem dX9_init_85 : decode cX9_init 85 = .ok (.dup, 1) := by decide +kernel
theorem dX9_init_86 : decode cX9_init 86 = .ok (.invokespecial 48, 3) := by decide +kernel
theorem dX9_init_89 : decode cX9_init 89 = .ok (.putfield 49, 3) := by decide +kernel
theorem dX9_init_92 : decode cX9_init 92 = .ok (.aload_n 0, 1) := by decide +kernel
theorem dX9_init_93 : decode cX9_init 93 = .ok (.new 46, 3) := by decide +kernel
theorem dX9_init_96 : decode cX9_init 96 = .ok (.dup, 1) := by decide +kernel
theorem dX9_init_97 : decode cX9_init 97 = .ok (.invokespecial 48, 3) := by decide +kernel
theorem dX9_init_100 : decode cX9_init 100 = .ok (.putfield 53, 3) := by decide +kernel
theorem dX9_init_103 : decode cX9_init 103 = .ok (.aload_n 0, 1) := by decide +kernel
theorem dX9_init_104 : decode cX9_init 104 = .ok (.iconst 3, 1) := by decide +kernel
theorem dX9_init_105 : decode cX9_init 105 = .ok (.anewarray 46, 3) := by decide +kernel
theorem dX9_init_108 : decode cX9_init 108 = .ok (.putfield 56, 3) := by decide +kernel
theorem dX9_init_111 : decode cX9_init 111 = .ok (.aload_n 0, 1) := by decide +kernel
theorem dX9_init_112 : decode cX9_init 112 = .ok (.new 60, 3) := by decide +kernel
theorem dX9_init_115 : decode cX9_init 115 = .ok (.dup, 1) := by decide +kernel
theorem dX9_init_116 : decode cX9_init 116 = .ok (.aload_n 0, 1) := by decide +kernel
theorem dX9_init_117 : decode cX9_init 117 = .ok (.getfield 19, 3) := by decide +kernel
theorem dX9_init_120 : decode cX9_init 120 = .ok (.aload_n 0, 1) := by decide +kernel
theorem dX9_init_121 : decode cX9_init 121 = .ok (.getfield 29, 3) := by decide +kernel
theorem dX9_init_124 : decode cX9_init 124 = .ok (.invokespecial 62, 3) := by decide +kernel
theorem dX9_init_127 : decode cX9_init 127 = .ok (.putfield 65, 3) := by decide +kernel
theorem dX9_init_130 : decode cX9_init 130 = .ok (.aload_n 0, 1) := by decide +kernel
theorem dX9_init_131 : decode cX9_init 131 = .ok (.new 69, 3) := by decide +kernel
theorem dX9_init_134 : decode cX9_init 134 = .ok (.dup, 1) := by decide +kernel
theorem dX9_init_135 : decode cX9_init 135 = .ok (.aload_n 0, 1) := by decide +kernel
theorem dX9_init_136 : decode cX9_init 136 = .ok (.getfield 19, 3) := by decide +kernel
theorem dX9_init_139 : decode cX9_init 139 = .ok (.aload_n 0, 1) := by decide +kernel
theorem dX9_init_140 : decode cX9_init 140 = .ok (.getfield 65, 3) := by decide +kernel
theorem dX9_init_143 : decode cX9_init 143 = .ok (.aload_n 0, 1) := by decide +kernel
theorem dX9_init_144 : decode cX9_init 144 = .ok (.getfield 49, 3) := by decide +kernel
theorem dX9_init_147 : decode cX9_init 147 = .ok (.invokespecial 71, 3) := by decide +kernel
theorem dX9_init_150 : decode cX9_init 150 = .ok (.putfield 74, 3) := by decide +kernel
theorem dX9_init_153 : decode cX9_init 153 = .ok (.aload_n 0, 1) := by decide +kernel
theorem dX9_init_154 : decode cX9_init 154 = .ok (.new 78, 3) := by decide +kernel
theorem dX9_init_157 : decode cX9_init 157 = .ok (.dup, 1) := by decide +kernel
theorem dX9_init_158 : decode cX9_init 158 = .ok (.aload_n 0, 1) := by decide +kernel
theorem dX9_init_159 : decode cX9_init 159 = .ok (.getfield 19, 3) := by decide +kernel
theorem dX9_init_162 : decode cX9_init 162 = .ok (.aload_n 0, 1) := by decide +kernel
theorem dX9_init_163 : decode cX9_init 163 = .ok (.getfield 39, 3) := by decide +kernel
theorem dX9_init_166 : decode cX9_init 166 = .ok (.aload_n 0, 1) := by decide +kernel
theorem dX9_init_167 : decode cX9_init 167 = .ok (.getfield 65, 3) := by decide +kernel
theorem dX9_init_170 : decode cX9_init 170 = .ok (.invokespecial 80, 3) := by decide +kernel
theorem dX9_init_173 : decode cX9_init 173 = .ok (.putfield 83, 3) := by decide +kernel
theorem dX9_init_176 : decode cX9_init 176 = .ok (.aload_n 0, 1) := by decide +kernel
theorem dX9_init_177 : decode cX9_init 177 = .ok (.new 87, 3) := by decide +kernel
theorem dX9_init_180 : decode cX9_init 180 = .ok (.dup, 1) := by decide +kernel
theorem dX9_init_181 : decode cX9_init 181 = .ok (.aload_n 0, 1) := by decide +kernel
theorem dX9_init_182 : decode cX9_init 182 = .ok (.getfield 19, 3) := by decide +kernel
theorem dX9_init_185 : decode cX9_init 185 = .ok (.aload_n 0, 1) := by decide +kernel
theorem dX9_init_186 : decode cX9_init 186 = .ok (.getfield 49, 3) := by decide +kernel
theorem dX9_init_189 : decode cX9_init 189 = .ok (.invokespecial 89, 3) := by decide +kernel
theorem dX9_init_192 : decode cX9_init 192 = .ok (.putfield 92, 3) := by decide +kernel
theorem dX9_init_195 : decode cX9_init 195 = .ok (.iconst 0, 1) := by decide +kernel
theorem dX9_init_196 : decode cX9_init 196 = .ok (.istore_n 1, 1) := by decide +kernel
theorem dX9_init_197 : decode cX9_init 197 = .ok (.iload_n 1, 1) := by decide +kernel
theorem dX9_init_198 : decode cX9_init 198 = .ok (.aload_n 0, 1) := by decide +kernel
theorem dX9_init_199 : decode cX9_init 199 = .ok (.getfield 56, 3) := by decide +kernel
theorem dX9_init_202 : decode cX9_init 202 = .ok (.arraylength, 1) := by decide +kernel
theorem dX9_init_203 : decode cX9_init 203 = .ok (.if_icmp .ge 22, 3) := by decide +kernel
theorem dX9_init_206 : decode cX9_init 206 = .ok (.aload_n 0, 1) := by decide +kernel
theorem dX9_init_207 : decode cX9_init 207 = .ok (.getfield 56, 3) := by decide +kernel
theorem dX9_init_210 : decode cX9_init 210 = .ok (.iload_n 1, 1) := by decide +kernel
theorem dX9_init_211 : decode cX9_init 211 = .ok (.new 46, 3) := by decide +kernel
theorem dX9_init_214 : decode cX9_init 214 = .ok (.dup, 1) := by decide +kernel
theorem dX9_init_215 : decode cX9_init 215 = .ok (.invokespecial 48, 3) := by decide +kernel
theorem dX9_init_218 : decode cX9_init 218 = .ok (.aastore, 1) := by decide +kernel
theorem dX9_init_219 : decode cX9_init 219 = .ok (.iinc 1 1, 3) := by decide +kernel
theorem dX9_init_222 : decode cX9_init 222 = .ok (.goto (-25), 3) := by decide +kernel
theorem dX9_init_225 : decode cX9_init 225 = .ok (.return_, 1) := by decide +kernel
def ceX9_init_0 (G : zG) (ce : Nat → va_E) : Nat → va_E := (bup (ceX7_init_110 G (bup (bup (ceX7_init_104 G (bup (bup (ceX7_init_98 G (bup (bup (ceX3_init_96_3_37 G (bup (bup (ceX6_init_87_3_31_50 G (bup (bup (ceX4_init_52_3_50_37 G (bup (bup (ceX2_init_50_3_23 G (bup (bup (bup (bup (ceX7_init_43 G (bup (bup (ceX7_init_37 G (bup (bup (ceX1_init_34 G (bup (bup (ceX1_init_31 G (bup (bup (ceX5_init_27 G (bup (bup (ceX5_init_23 G (bup (bup (ceX0_init_13 G (bup (bup (ceX0_init_3 G (bup (bup (ceX8_init_1 G (bup ce 1 (.inr (8, [.null, .int 0, .int 0, .int 0, .int 0, .int 0])))) 0 (.inr (9, [.null, .null, .null, .null, .null, .null, .null, .null, .null, .null, .int 0, .null, .null, .null, .null, .int 0, .int 0].set 0 (zr G 1)))) 3 (.inr (0, [.int 0, .int 0, .int 0, .int 0, .int 0, .int 0, .int 0, .null, .null, .null, .null, .null, .null, .null, .null, .null])))) 0 (.inr (9, [zr G 1, .null, .null, .null, .null, .null, .null, .null, .null, .null, .int 0, .null, .null, .null, .null, .int 0, .int 0].set 1 (zr G 3)))) 13 (.inr (0, [.int 0, .int 0, .int 0, .int 0, .int 0, .int 0, .int 0, .null, .null, .null, .null, .null, .null, .null, .null, .null])))) 0 (.inr (9, [zr G 1, zr G 3, .null, .null, .null, .null, .null, .null, .null, .null, .int 0, .null, .null, .null, .null, .int 0, .int 0].set 2 (zr G 13)))) 23 (.inr (5, [.null, .null, .null, .int 0])))) 0 (.inr (9, [zr G 1, zr G 3, zr G 13, .null, .null, .null, .null, .null, .null, .null, .int 0, .null, .null, .null, .null, .int 0, .int 0].set 3 (zr G 23)))) 27 (.inr (5, [.null, .null, .null, .int 0])))) 0 (.inr (9, [zr G 1, zr G 3, zr G 13, zr G 23, .null, .null, .null, .null, .null, .null, .int 0, .null, .null, .null, .null, .int 0, .int 0].set 4 (zr G 27)))) 31 (.inr (1, [.int 0, .null, .null])))) 0 (.inr (9, [zr G 1, zr G 3, zr G 13, zr G 23, zr G 27, .null, .null, .null, .null, .null, .int 0, .null, .null, .null, .null, .int 0, .int 0].set 5 (zr G 31)))) 34 (.inr (1, [.int 0, .null, .null])))) 0 (.inr (9, [zr G 1, zr G 3, zr G 13, zr G 23, zr G 27, zr G 31, .null, .null, .null, .null, .int 0, .null, .null, .null, .null, .int 0, .int 0].set 6 (zr G 34)))) 37 (.inr (7, [.int 0, .int 0, .int 0, .int 0, .int 0, .int 0, .int 0, .int 0, .null, .null, .null, .null, .null])))) 0 (.inr (9, [zr G 1, zr G 3, zr G 13, zr G 23, zr G 27, zr G 31, zr G 34, .null, .null, .null, .int 0, .null, .null, .null, .null, .int 0, .int 0].set 7 (zr G 37)))) 43 (.inr (7, [.int 0, .int 0, .int 0, .int 0, .int 0, .int 0, .int 0, .int 0, .null, .null, .null, .null, .null])))) 0 (.inr (9, [zr G 1, zr G 3, zr G 13, zr G 23, zr G 27, zr G 31, zr G 34, zr G 37, .null, .null, .int 0, .null, .null, .null, .null, .int 0, .int 0].set 8 (zr G 43)))) 49 (.inl (G.2.1 4, 3, (.inr (.inr (.inr (.inr (fun _ => none)))))))) 0 (.inr (9, [zr G 1, zr G 3, zr G 13, zr G 23, zr G 27, zr G 31, zr G 34, zr G 37, zr G 43, .null, .int 0, .null, .null, .null, .null, .int 0, .int 0].set 9 (zr G 49)))) 50 (.inr (2, [.null, .null, .null])))) 0 (.inr (9, [zr G 1, zr G 3, zr G 13, zr G 23, zr G 27, zr G 31, zr G 34, zr G 37, zr G 43, zr G 49, .int 0, .null, .null, .null, .null, .int 0, .int 0].set 11 (zr G 50)))) 52 (.inr (4, [.null, .null, .null, .null, .null, .null, .null, .null, .int 0, .int 0, .int 0, .int 0, .int 0])))) 0 (.inr (9, [zr G 1, zr G 3, zr G 13, zr G 23, zr G 27, zr G 31, zr G 34, zr G 37, zr G 43, zr G 49, .int 0, zr G 50, .null, .null, .null, .int 0, .int 0].set 12 (zr G 52)))) 87 (.inr (6, [.null, .null, .null, .null, .null, .null, .int 0, .int 0])))) 0 (.inr (9, [zr G 1, zr G 3, zr G 13, zr G 23, zr G 27, zr G 31, zr G 34, zr G 37, zr G 43, zr G 49, .int 0, zr G 50, zr G 52, .null, .null, .int 0, .int 0].set 13 (zr G 87)))) 96 (.inr (3, [.null, .null, .null])))) 0 (.inr (9, [zr G 1, zr G 3, zr G 13, zr G 23, zr G 27, zr G 31, zr G 34, zr G 37, zr G 43, zr G 49, .int 0, zr G 50, zr G 52, zr G 87, .null, .int 0, .int 0].set 14 (zr G 96)))) 98 (.inr (7, [.int 0, .int 0, .int 0, .int 0, .int 0, .int 0, .int 0, .int 0, .null, .null, .null, .null, .null])))) 49 (.inl (G.2.1 4, 3, .inr (.inr (.inr (.inr (va_up (fun _ => none) (0 : Int32).toNatClampNeg (some (G.2.2 + 98))))))))) 104 (.inr (7, [.int 0, .int 0, .int 0, .int 0, .int 0, .int 0, .int 0, .int 0, .null, .null, .null, .null, .null])))) 49 (.inl (G.2.1 4, 3, .inr (.inr (.inr (.inr (va_up (va_up (fun _ => none) (0 : Int32).toNatClampNeg (some (G.2.2 + 98))) (1 : Int32).toNatClampNeg (some (G.2.2 + 104))))))))) 110 (.inr (7, [.int 0, .int 0, .int 0, .int 0, .int 0, .int 0, .int 0, .int 0, .null, .null, .null, .null, .null])))) 49 (.inl (G.2.1 4, 3, .inr (.inr (.inr (.inr (va_up (va_up (va_up (fun _ => none) (0 : Int32).toNatClampNeg (some (G.2.2 + 98))) (1 : Int32).toNatClampNeg (some (G.2.2 + 104))) (2 : Int32).toNatClampNeg (some (G.2.2 + 110)))))))))
set_option maxRecDepth 20000 in
set_option maxHeartbeats 2000000 in
theorem kBX9_init_0 (l : Launch) (G : zG) (ce : Nat → va_E) (hc0 : ce 0 = .inr (9, [.null, .null, .null, .null, .null, .null, .null, .null, .null, .null, .int 0, .null, .null, .null, .null, .int 0, .int 0])) : zBM l yX9_init cX9_init 2 none 4 141 115 2949 [zr G 0] G 1 ce 116 (ceX9_init_0 G ce) := by
  refine zBM_of (own := RX9) (by decide) rfl (Nat.le_of_ble_eq_true rfl) (fun x hl F hr hk hcs hini => ?_)
  subst hl
  refine b_ls [(0, zr G 0)] [0] rfl ?_
  refine b_aload_n F dX9_init_0 rfl 0 rfl ?_
  refine b_obj F zol_X9_1 zob_2 zob_3 (Nat.le_of_ble_eq_true rfl) (Nat.le_of_ble_eq_true rfl) (Nat.le_of_ble_eq_true rfl) dX9_init_1 ?_
  refine b_aload_n F dX9_init_4 rfl 0 rfl ?_
  refine b_new F (c := 8) (C := RX8) (T := TX8) (N := 6) (fs := [.null, .int 0, .int 0, .int 0, .int 0, .int 0]) tyX8 tyX8_ok rfl uw_8 zcl_X9_7 zin_RX8 ini_RX8 (by decide +kernel) ⟨Nat.le_trans (Nat.le_of_ble_eq_true rfl) hcs.1, Nat.le_trans (Nat.le_of_ble_eq_true rfl) hcs.2⟩ dX9_init_5 ?_
  refine b_dup F dX9_init_8 rfl ?_
  refine b_callIN F [] [zr G 1, zr G 0] (n' := 3) (kBX8_init_1 x.2.1 G _ rfl) mI_X8_init rfl wN_X9_9 mi_X8_init rfl dX9_init_9 rfl ⟨Nat.le_of_ble_eq_true rfl, Nat.le_of_ble_eq_true rfl⟩ rfl (Nat.le_of_ble_eq_true rfl) ⟨Nat.le_trans (Nat.le_of_ble_eq_true rfl) hcs.1, Nat.le_trans (Nat.le_of_ble_eq_true rfl) hcs.2⟩ ?_
  refine b_putF F hini (c := 9) (C := RX9) (T := TX9) (N := 17) (fs := [.null, .null, .null, .null, .null, .null, .null, .null, .null, .null, .int 0, .null, .null, .null, .null, .int 0, .int 0]) (ty := tyX9 0) tyX9 tyX9_ok nmX9 rfl uw_9 0 (by decide) rfl rfl (tyX9_ok 0 (by decide)) rfl rfl (Nat.le_of_ble_eq_true rfl) hc0 (Nat.le_of_ble_eq_true rfl) wF_X9_10 dX9_init_12 ?_
  refine b_aload_n F dX9_init_15 rfl 0 rfl ?_
  refine b_new F (c := 0) (C := RX0) (T := TX0) (N := 16) (fs := [.int 0, .int 0, .int 0, .int 0, .int 0, .int 0, .int 0, .null, .null, .null, .null, .null, .null, .null, .null, .null]) tyX0 tyX0_ok rfl uw_0 zcl_X9_16 zin_RX0 ini_RX0 (by decide +kernel) ⟨Nat.le_trans (Nat.le_of_ble_eq_true rfl) hcs.1, Nat.le_trans (Nat.le_of_ble_eq_true rfl) hcs.2⟩ dX9_init_16 ?_
  refine b_dup F dX9_init_19 rfl ?_
  refine b_callIN F [] [zr G 3, zr G 0] (n' := 13) (kBX0_init_3 x.2.1 G _ rfl) mI_X0_init rfl wN_X9_18 mi_X0_init rfl dX9_init_20 rfl ⟨Nat.le_of_ble_eq_true rfl, Nat.le_of_ble_eq_true rfl⟩ rfl (Nat.le_of_ble_eq_true rfl) ⟨Nat.le_trans (Nat.le_of_ble_eq_true rfl) hcs.1, Nat.le_trans (Nat.le_of_ble_eq_true rfl) hcs.2⟩ ?_
  refine b_putF F hini (c := 9) (C := RX9) (T := TX9) (N := 17) (fs := [zr G 1, .null, .null, .null, .null, .null, .null, .null, .null, .null, .int 0, .null, .null, .null, .null, .int 0, .int 0]) (ty := tyX9 1) tyX9 tyX9_ok nmX9 rfl uw_9 1 (by decide) rfl rfl (tyX9_ok 1 (by decide)) rfl rfl (Nat.le_of_ble_eq_true rfl) rfl (Nat.le_of_ble_eq_true rfl) wF_X9_19 dX9_init_23 ?_
  refine b_aload_n F dX9_init_26 rfl 0 rfl ?_
  refine b_new F (c := 0) (C := RX0) (T := TX0) (N := 16) (fs := [.int 0, .int 0, .int 0, .int 0, .int 0, .int 0, .int 0, .null, .null, .null, .null, .null, .null, .null, .null, .null]) tyX0 tyX0_ok rfl uw_0 zcl_X9_16 zin_RX0 ini_RX0 (by decide +kernel) ⟨Nat.le_trans (Nat.le_of_ble_eq_true rfl) hcs.1, Nat.le_trans (Nat.le_of_ble_eq_true rfl) hcs.2⟩ dX9_init_27 ?_
  refine b_dup F dX9_init_30 rfl ?_
  refine b_callIN F [] [zr G 13, zr G 0] (n' := 23) (kBX0_init_13 x.2.1 G _ rfl) mI_X0_init rfl wN_X9_18 mi_X0_init rfl dX9_init_31 rfl ⟨Nat.le_of_ble_eq_true rfl, Nat.le_of_ble_eq_true rfl⟩ rfl (Nat.le_of_ble_eq_true rfl) ⟨Nat.le_trans (Nat.le_of_ble_eq_true rfl) hcs.1, Nat.le_trans (Nat.le_of_ble_eq_true rfl) hcs.2⟩ ?_
  refine b_putF F hini (c := 9) (C := RX9) (T := TX9) (N := 17) (fs := [zr G 1, zr G 3, .null, .null, .null, .null, .null, .null, .null, .null, .int 0, .null, .null, .null, .null, .int 0, .int 0]) (ty := tyX9 2) tyX9 tyX9_ok nmX9 rfl uw_9 2 (by decide) rfl rfl (tyX9_ok 2 (by decide)) rfl rfl (Nat.le_of_ble_eq_true rfl) rfl (Nat.le_of_ble_eq_true rfl) wF_X9_23 dX9_init_34 ?_
  refine b_aload_n F dX9_init_37 rfl 0 rfl ?_
  refine b_new F (c := 5) (C := RX5) (T := TX5) (N := 4) (fs := [.null, .null, .null, .int 0]) tyX5 tyX5_ok rfl uw_5 zcl_X9_26 zin_RX5 ini_RX5 (by decide +kernel) ⟨Nat.le_trans (Nat.le_of_ble_eq_true rfl) hcs.1, Nat.le_trans (Nat.le_of_ble_eq_true rfl) hcs.2⟩ dX9_init_38 ?_
  refine b_dup F dX9_init_41 rfl ?_
  refine b_callI F [] [zr G 23, zr G 0] (n' := 27) (kBX5_init_23 x.2.1 G _ rfl) mI_X5_init rfl wM_X9_28 mi_X5_init rfl dX9_init_42 rfl ⟨Nat.le_of_ble_eq_true rfl, Nat.le_of_ble_eq_true rfl⟩ rfl (Nat.le_of_ble_eq_true rfl) ⟨Nat.le_trans (Nat.le_of_ble_eq_true rfl) hcs.1, Nat.le_trans (Nat.le_of_ble_eq_true rfl) hcs.2⟩ ?_
  refine b_putF F hini (c := 9) (C := RX9) (T := TX9) (N := 17) (fs := [zr G 1, zr G 3, zr G 13, .null, .null, .null, .null, .null, .null, .null, .int 0, .null, .null, .null, .null, .int 0, .int 0]) (ty := tyX9 3) tyX9 tyX9_ok nmX9 rfl uw_9 3 (by decide) rfl rfl (tyX9_ok 3 (by decide)) rfl rfl (Nat.le_of_ble_eq_true rfl) rfl (Nat.le_of_ble_eq_true rfl) wF_X9_29 dX9_init_45 ?_
  refine b_aload_n F dX9_init_48 rfl 0 rfl ?_
  refine b_new F (c := 5) (C := RX5) (T := TX5) (N := 4) (fs := [.null, .null, .null, .int 0]) tyX5 tyX5_ok rfl uw_5 zcl_X9_26 zin_RX5 ini_RX5 (by decide +kernel) ⟨Nat.le_trans (Nat.le_of_ble_eq_true rfl) hcs.1, Nat.le_trans (Nat.le_of_ble_eq_true rfl) hcs.2⟩ dX9_init_49 ?_
  refine b_dup F dX9_init_52 rfl ?_
  refine b_callI F [] [zr G 27, zr G 0] (n' := 31) (kBX5_init_27 x.2.1 G _ rfl) mI_X5_init rfl wM_X9_28 mi_X5_init rfl dX9_init_53 rfl ⟨Nat.le_of_ble_eq_true rfl, Nat.le_of_ble_eq_true rfl⟩ rfl (Nat.le_of_ble_eq_true rfl) ⟨Nat.le_trans (Nat.le_of_ble_eq_true rfl) hcs.1, Nat.le_trans (Nat.le_of_ble_eq_true rfl) hcs.2⟩ ?_
  refine b_putF F hini (c := 9) (C := RX9) (T := TX9) (N := 17) (fs := [zr G 1, zr G 3, zr G 13, zr G 23, .null, .null, .null, .null, .null, .null, .int 0, .null, .null, .null, .null, .int 0, .int 0]) (ty := tyX9 4) tyX9 tyX9_ok nmX9 rfl uw_9 4 (by decide) rfl rfl (tyX9_ok 4 (by decide)) rfl rfl (Nat.le_of_ble_eq_true rfl) rfl (Nat.le_of_ble_eq_true rfl) wF_X9_33 dX9_init_56 ?_
  refine b_aload_n F dX9_init_59 rfl 0 rfl ?_
  refine b_new F (c := 1) (C := RX1) (T := TX1) (N := 3) (fs := [.int 0, .null, .null]) tyX1 tyX1_ok rfl uw_1 zcl_X9_36 zin_RX1 ini_RX1 (by decide +kernel) ⟨Nat.le_trans (Nat.le_of_ble_eq_true rfl) hcs.1, Nat.le_trans (Nat.le_of_ble_eq_true rfl) hcs.2⟩ dX9_init_60 ?_
  refine b_dup F dX9_init_63 rfl ?_
  refine b_callIN F [] [zr G 31, zr G 0] (n' := 34) (kBX1_init_31 x.2.1 G _ rfl) mI_X1_init rfl wN_X9_38 mi_X1_init rfl dX9_init_64 rfl ⟨Nat.le_of_ble_eq_true rfl, Nat.le_of_ble_eq_true rfl⟩ rfl (Nat.le_of_ble_eq_true rfl) ⟨Nat.le_trans (Nat.le_of_ble_eq_true rfl) hcs.1, Nat.le_trans (Nat.le_of_ble_eq_true rfl) hcs.2⟩ ?_
  refine b_putF F hini (c := 9) (C := RX9) (T := TX9) (N := 17) (fs := [zr G 1, zr G 3, zr G 13, zr G 23, zr G 27, .null, .null, .null, .null, .null, .int 0, .null, .null, .null, .null, .int 0, .int 0]) (ty := tyX9 5) tyX9 tyX9_ok nmX9 rfl uw_9 5 (by decide) rfl rfl (tyX9_ok 5 (by decide)) rfl rfl (Nat.le_of_ble_eq_true rfl) rfl (Nat.le_of_ble_eq_true rfl) wF_X9_39 dX9_init_67 ?_
  refine b_aload_n F dX9_init_70 rfl 0 rfl ?_
  refine b_new F (c := 1) (C := RX1) (T := TX1) (N := 3) (fs := [.int 0, .null, .null]) tyX1 tyX1_ok rfl uw_1 zcl_X9_36 zin_RX1 ini_RX1 (by decide +kernel) ⟨Nat.le_trans (Nat.le_of_ble_eq_true rfl) hcs.1, Nat.le_trans (Nat.le_of_ble_eq_true rfl) hcs.2⟩ dX9_init_71 ?_
  refine b_dup F dX9_init_74 rfl ?_
  refine b_callIN F [] [zr G 34, zr G 0] (n' := 37) (kBX1_init_34 x.2.1 G _ rfl) mI_X1_init rfl wN_X9_38 mi_X1_init rfl dX9_init_75 rfl ⟨Nat.le_of_ble_eq_true rfl, Nat.le_of_ble_eq_true rfl⟩ rfl (Nat.le_of_ble_eq_true rfl) ⟨Nat.le_trans (Nat.le_of_ble_eq_true rfl) hcs.1, Nat.le_trans (Nat.le_of_ble_eq_true rfl) hcs.2⟩ ?_
  refine b_putF F hini (c := 9) (C := RX9) (T := TX9) (N := 17) (fs := [zr G 1, zr G 3, zr G 13, zr G 23, zr G 27, zr G 31, .null, .null, .null, .null, .int 0, .null, .null, .null, .null, .int 0, .int 0]) (ty := tyX9 6) tyX9 tyX9_ok nmX9 rfl uw_9 6 (by decide) rfl rfl (tyX9_ok 6 (by decide)) rfl rfl (Nat.le_of_ble_eq_true rfl) rfl (Nat.le_of_ble_eq_true rfl) wF_X9_43 dX9_init_78 ?_
  refine b_aload_n F dX9_init_81 rfl 0 rfl ?_
  refine b_new F (c := 7) (C := RX7) (T := TX7) (N := 13) (fs := [.int 0, .int 0, .int 0, .int 0, .int 0, .int 0, .int 0, .int 0, .null, .null, .null, .null, .null]) tyX7 tyX7_ok rfl uw_7 zcl_X9_46 zin_RX7 ini_RX7 (by decide +kernel) ⟨Nat.le_trans (Nat.le_of_ble_eq_true rfl) hcs.1, Nat.le_trans (Nat.le_of_ble_eq_true rfl) hcs.2⟩ dX9_init_82 ?_
  refine b_dup F dX9_init_85 rfl ?_
  refine b_callIN F [] [zr G 37, zr G 0] (n' := 43) (kBX7_init_37 x.2.1 G _ rfl) mI_X7_init rfl wN_X9_48 mi_X7_init rfl dX9_init_86 rfl ⟨Nat.le_of_ble_eq_true rfl, Nat.le_of_ble_eq_true rfl⟩ rfl (Nat.le_of_ble_eq_true rfl) ⟨Nat.le_trans (Nat.le_of_ble_eq_true rfl) hcs.1, Nat.le_trans (Nat.le_of_ble_eq_true rfl) hcs.2⟩ ?_
  refine b_putF F hini (c := 9) (C := RX9) (T := TX9) (N := 17) (fs := [zr G 1, zr G 3, zr G 13, zr G 23, zr G 27, zr G 31, zr G 34, .null, .null, .null, .int 0, .null, .null, .null, .null, .int 0, .int 0]) (ty := tyX9 7) tyX9 tyX9_ok nmX9 rfl uw_9 7 (by decide) rfl rfl (tyX9_ok 7 (by decide)) rfl rfl (Nat.le_of_ble_eq_true rfl) rfl (Nat.le_of_ble_eq_true rfl) wF_X9_49 dX9_init_89 ?_
  refine b_aload_n F dX9_init_92 rfl 0 rfl ?_
  refine b_new F (c := 7) (C := RX7) (T := TX7) (N := 13) (fs := [.int 0, .int 0, .int 0, .int 0, .int 0, .int 0, .int 0, .int 0, .null, .null, .null, .null, .null]) tyX7 tyX7_ok rfl uw_7 zcl_X9_46 zin_RX7 ini_RX7 (by decide +kernel) ⟨Nat.le_trans (Nat.le_of_ble_eq_true rfl) hcs.1, Nat.le_trans (Nat.le_of_ble_eq_true rfl) hcs.2⟩ dX9_init_93 ?_
  refine b_dup F dX9_init_96 rfl ?_
  refine b_callIN F [] [zr G 43, zr G 0] (n' := 49) (kBX7_init_43 x.2.1 G _ rfl) mI_X7_init rfl wN_X9_48 mi_X7_init rfl dX9_init_97 rfl ⟨Nat.le_of_ble_eq_true rfl, Nat.le_of_ble_eq_true rfl⟩ rfl (Nat.le_of_ble_eq_true rfl) ⟨Nat.le_trans (Nat.le_of_ble_eq_true rfl) hcs.1, Nat.le_trans (Nat.le_of_ble_eq_true rfl) hcs.2⟩ ?_
  refine b_putF F hini (c := 9) (C := RX9) (T := TX9) (N := 17) (fs := [zr G 1, zr G 3, zr G 13, zr G 23, zr G 27, zr G 31, zr G 34, zr G 37, .null, .null, .int 0, .null, .null, .null, .null, .int 0, .int 0]) (ty := tyX9 8) tyX9 tyX9_ok nmX9 rfl uw_9 8 (by decide) rfl rfl (tyX9_ok 8 (by decide)) rfl rfl (Nat.le_of_ble_eq_true rfl) rfl (Nat.le_of_ble_eq_true rfl) wF_X9_53 dX9_init_100 ?_
  refine b_aload_n F dX9_init_103 rfl 0 rfl ?_
  refine b_iconst (y := (3 : Int32)) F dX9_init_104 rfl ?_
  refine b_newq F zcl_X9_46 zao_row (N' := 3) (by decide) (by decide) (Nat.le_of_ble_eq_true rfl) ⟨Nat.le_trans (Nat.le_of_ble_eq_true rfl) hcs.1, Nat.le_trans (Nat.le_of_ble_eq_true rfl) hcs.2⟩ dX9_init_105 ?_
  refine b_putF F hini (c := 9) (C := RX9) (T := TX9) (N := 17) (fs := [zr G 1, zr G 3, zr G 13, zr G 23, zr G 27, zr G 31, zr G 34, zr G 37, zr G 43, .null, .int 0, .null, .null, .null, .null, .int 0, .int 0]) (ty := tyX9 9) tyX9 tyX9_ok nmX9 rfl uw_9 9 (by decide) rfl rfl (tyX9_ok 9 (by decide)) rfl rfl (Nat.le_of_ble_eq_true rfl) rfl (Nat.le_of_ble_eq_true rfl) wF_X9_56 dX9_init_108 ?_
  refine b_aload_n F dX9_init_111 rfl 0 rfl ?_
  refine b_new F (c := 2) (C := RX2) (T := TX2) (N := 3) (fs := [.null, .null, .null]) tyX2 tyX2_ok rfl uw_2 zcl_X9_60 zin_RX2 ini_RX2 (by decide +kernel) ⟨Nat.le_trans (Nat.le_of_ble_eq_true rfl) hcs.1, Nat.le_trans (Nat.le_of_ble_eq_true rfl) hcs.2⟩ dX9_init_112 ?_
  refine b_dup F dX9_init_115 rfl ?_
  refine b_aload_n F dX9_init_116 rfl 0 rfl ?_
  refine b_getR F (c := 9) (C := RX9) (T := TX9) (N := 17) (fs := [zr G 1, zr G 3, zr G 13, zr G 23, zr G 27, zr G 31, zr G 34, zr G 37, zr G 43, zr G 49, .int 0, .null, .null, .null, .null, .int 0, .int 0]) rfl uw_9 1 (by decide) (Nat.le_of_ble_eq_true rfl) rfl rfl wF_X9_19 dX9_init_117 ?_
  refine b_aload_n F dX9_init_120 rfl 0 rfl ?_
  refine b_getR F (c := 9) (C := RX9) (T := TX9) (N := 17) (fs := [zr G 1, zr G 3, zr G 13, zr G 23, zr G 27, zr G 31, zr G 34, zr G 37, zr G 43, zr G 49, .int 0, .null, .null, .null, .null, .int 0, .int 0]) rfl uw_9 3 (by decide) (Nat.le_of_ble_eq_true rfl) rfl rfl wF_X9_29 dX9_init_121 ?_
  refine b_callI F [zr G 3, zr G 23] [zr G 50, zr G 0] (n' := 52) (kBX2_init_50_3_23 x.2.1 G _ rfl) mI_X2_init rfl wM_X9_62 mi_X2_init rfl dX9_init_124 rfl ⟨Nat.le_of_ble_eq_true rfl, Nat.le_of_ble_eq_true rfl⟩ rfl (Nat.le_of_ble_eq_true rfl) ⟨Nat.le_trans (Nat.le_of_ble_eq_true rfl) hcs.1, Nat.le_trans (Nat.le_of_ble_eq_true rfl) hcs.2⟩ ?_
  refine b_putF F hini (c := 9) (C := RX9) (T := TX9) (N := 17) (fs := [zr G 1, zr G 3, zr G 13, zr G 23, zr G 27, zr G 31, zr G 34, zr G 37, zr G 43, zr G 49, .int 0, .null, .null, .null, .null, .int 0, .int 0]) (ty := tyX9 11) tyX9 tyX9_ok nmX9 rfl uw_9 11 (by decide) rfl rfl (tyX9_ok 11 (by decide)) rfl rfl (Nat.le_of_ble_eq_true rfl) rfl (Nat.le_of_ble_eq_true rfl) wF_X9_65 dX9_init_127 ?_
  refine b_aload_n F dX9_init_130 rfl 0 rfl ?_
  refine b_new F (c := 4) (C := RX4) (T := TX4) (N := 13) (fs := [.null, .null, .null, .null, .null, .null, .null, .null, .int 0, .int 0, .int 0, .int 0, .int 0]) tyX4 tyX4_ok rfl uw_4 zcl_X9_69 zin_RX4 ini_RX4 (by decide +kernel) ⟨Nat.le_trans (Nat.le_of_ble_eq_true rfl) hcs.1, Nat.le_trans (Nat.le_of_ble_eq_true rfl) hcs.2⟩ dX9_init_131 ?_
  refine b_dup F dX9_init_134 rfl ?_
  refine b_aload_n F dX9_init_135 rfl 0 rfl ?_
  refine b_getR F (c := 9) (C := RX9) (T := TX9) (N := 17) (fs := [zr G 1, zr G 3, zr G 13, zr G 23, zr G 27, zr G 31, zr G 34, zr G 37, zr G 43, zr G 49, .int 0, zr G 50, .null, .null, .null, .int 0, .int 0]) rfl uw_9 1 (by decide) (Nat.le_of_ble_eq_true rfl) rfl rfl wF_X9_19 dX9_init_136 ?_
  refine b_aload_n F dX9_init_139 rfl 0 rfl ?_
  refine b_getR F (c := 9) (C := RX9) (T := TX9) (N := 17) (fs := [zr G 1, zr G 3, zr G 13, zr G 23, zr G 27, zr G 31, zr G 34, zr G 37, zr G 43, zr G 49, .int 0, zr G 50, .null, .null, .null, .int 0, .int 0]) rfl uw_9 11 (by decide) (Nat.le_of_ble_eq_true rfl) rfl rfl wF_X9_65 dX9_init_140 ?_
  refine b_aload_n F dX9_init_143 rfl 0 rfl ?_
  refine b_getR F (c := 9) (C := RX9) (T := TX9) (N := 17) (fs := [zr G 1, zr G 3, zr G 13, zr G 23, zr G 27, zr G 31, zr G 34, zr G 37, zr G 43, zr G 49, .int 0, zr G 50, .null, .null, .null, .int 0, .int 0]) rfl uw_9 7 (by decide) (Nat.le_of_ble_eq_true rfl) rfl rfl wF_X9_49 dX9_init_144 ?_
  refine b_callI F [zr G 3, zr G 50, zr G 37] [zr G 52, zr G 0] (n' := 87) (kBX4_init_52_3_50_37 x.2.1 G _ rfl) mI_X4_init rfl wM_X9_71 mi_X4_init rfl dX9_init_147 rfl ⟨Nat.le_of_ble_eq_true rfl, Nat.le_of_ble_eq_true rfl⟩ rfl (Nat.le_of_ble_eq_true rfl) ⟨Nat.le_trans (Nat.le_of_ble_eq_true rfl) hcs.1, Nat.le_trans (Nat.le_of_ble_eq_true rfl) hcs.2⟩ ?_
  refine b_putF F hini (c := 9) (C := RX9) (T := TX9) (N := 17) (fs := [zr G 1, zr G 3, zr G 13, zr G 23, zr G 27, zr G 31, zr G 34, zr G 37, zr G 43, zr G 49, .int 0, zr G 50, .null, .null, .null, .int 0, .int 0]) (ty := tyX9 12) tyX9 tyX9_ok nmX9 rfl uw_9 12 (by decide) rfl rfl (tyX9_ok 12 (by decide)) rfl rfl (Nat.le_of_ble_eq_true rfl) rfl (Nat.le_of_ble_eq_true rfl) wF_X9_74 dX9_init_150 ?_
  refine b_aload_n F dX9_init_153 rfl 0 rfl ?_
  refine b_new F (c := 6) (C := RX6) (T := TX6) (N := 8) (fs := [.null, .null, .null, .null, .null, .null, .int 0, .int 0]) tyX6 tyX6_ok rfl uw_6 zcl_X9_78 zin_RX6 ini_RX6 (by decide +kernel) ⟨Nat.le_trans (Nat.le_of_ble_eq_true rfl) hcs.1, Nat.le_trans (Nat.le_of_ble_eq_true rfl) hcs.2⟩ dX9_init_154 ?_
  refine b_dup F dX9_init_157 rfl ?_
  refine b_aload_n F dX9_init_158 rfl 0 rfl ?_
  refine b_getR F (c := 9) (C := RX9) (T := TX9) (N := 17) (fs := [zr G 1, zr G 3, zr G 13, zr G 23, zr G 27, zr G 31, zr G 34, zr G 37, zr G 43, zr G 49, .int 0, zr G 50, zr G 52, .null, .null, .int 0, .int 0]) rfl uw_9 1 (by decide) (Nat.le_of_ble_eq_true rfl) rfl rfl wF_X9_19 dX9_init_159 ?_
  refine b_aload_n F dX9_init_162 rfl 0 rfl ?_
  refine b_getR F (c := 9) (C := RX9) (T := TX9) (N := 17) (fs := [zr G 1, zr G 3, zr G 13, zr G 23, zr G 27, zr G 31, zr G 34, zr G 37, zr G 43, zr G 49, .int 0, zr G 50, zr G 52, .null, .null, .int 0, .int 0]) rfl uw_9 5 (by decide) (Nat.le_of_ble_eq_true rfl) rfl rfl wF_X9_39 dX9_init_163 ?_
  refine b_aload_n F dX9_init_166 rfl 0 rfl ?_
  refine b_getR F (c := 9) (C := RX9) (T := TX9) (N := 17) (fs := [zr G 1, zr G 3, zr G 13, zr G 23, zr G 27, zr G 31, zr G 34, zr G 37, zr G 43, zr G 49, .int 0, zr G 50, zr G 52, .null, .null, .int 0, .int 0]) rfl uw_9 11 (by decide) (Nat.le_of_ble_eq_true rfl) rfl rfl wF_X9_65 dX9_init_167 ?_
  refine b_callI F [zr G 3, zr G 31, zr G 50] [zr G 87, zr G 0] (n' := 96) (kBX6_init_87_3_31_50 x.2.1 G _ rfl) mI_X6_init rfl wM_X9_80 mi_X6_init rfl dX9_init_170 rfl ⟨Nat.le_of_ble_eq_true rfl, Nat.le_of_ble_eq_true rfl⟩ rfl (Nat.le_of_ble_eq_true rfl) ⟨Nat.le_trans (Nat.le_of_ble_eq_true rfl) hcs.1, Nat.le_trans (Nat.le_of_ble_eq_true rfl) hcs.2⟩ ?_
  refine b_putF F hini (c := 9) (C := RX9) (T := TX9) (N := 17) (fs := [zr G 1, zr G 3, zr G 13, zr G 23, zr G 27, zr G 31, zr G 34, zr G 37, zr G 43, zr G 49, .int 0, zr G 50, zr G 52, .null, .null, .int 0, .int 0]) (ty := tyX9 13) tyX9 tyX9_ok nmX9 rfl uw_9 13 (by decide) rfl rfl (tyX9_ok 13 (by decide)) rfl rfl (Nat.le_of_ble_eq_true rfl) rfl (Nat.le_of_ble_eq_true rfl) wF_X9_83 dX9_init_173 ?_
  refine b_aload_n F dX9_init_176 rfl 0 rfl ?_
  refine b_new F (c := 3) (C := RX3) (T := TX3) (N := 3) (fs := [.null, .null, .null]) tyX3 tyX3_ok rfl uw_3 zcl_X9_87 zin_RX3 ini_RX3 (by decide +kernel) ⟨Nat.le_trans (Nat.le_of_ble_eq_true rfl) hcs.1, Nat.le_trans (Nat.le_of_ble_eq_true rfl) hcs.2⟩ dX9_init_177 ?_
  refine b_dup F dX9_init_180 rfl ?_
  refine b_aload_n F dX9_init_181 rfl 0 rfl ?_
  refine b_getR F (c := 9) (C := RX9) (T := TX9) (N := 17) (fs := [zr G 1, zr G 3, zr G 13, zr G 23, zr G 27, zr G 31, zr G 34, zr G 37, zr G 43, zr G 49, .int 0, zr G 50, zr G 52, zr G 87, .null, .int 0, .int 0]) rfl uw_9 1 (by decide) (Nat.le_of_ble_eq_true rfl) rfl rfl wF_X9_19 dX9_init_182 ?_
  refine b_aload_n F dX9_init_185 rfl 0 rfl ?_
  refine b_getR F (c := 9) (C := RX9) (T := TX9) (N := 17) (fs := [zr G 1, zr G 3, zr G 13, zr G 23, zr G 27, zr G 31, zr G 34, zr G 37, zr G 43, zr G 49, .int 0, zr G 50, zr G 52, zr G 87, .null, .int 0, .int 0]) rfl uw_9 7 (by decide) (Nat.le_of_ble_eq_true rfl) rfl rfl wF_X9_49 dX9_init_186 ?_
  refine b_callI F [zr G 3, zr G 37] [zr G 96, zr G 0] (n' := 98) (kBX3_init_96_3_37 x.2.1 G _ rfl) mI_X3_init rfl wM_X9_89 mi_X3_init rfl dX9_init_189 rfl ⟨Nat.le_of_ble_eq_true rfl, Nat.le_of_ble_eq_true rfl⟩ rfl (Nat.le_of_ble_eq_true rfl) ⟨Nat.le_trans (Nat.le_of_ble_eq_true rfl) hcs.1, Nat.le_trans (Nat.le_of_ble_eq_true rfl) hcs.2⟩ ?_
  refine b_putF F hini (c := 9) (C := RX9) (T := TX9) (N := 17) (fs := [zr G 1, zr G 3, zr G 13, zr G 23, zr G 27, zr G 31, zr G 34, zr G 37, zr G 43, zr G 49, .int 0, zr G 50, zr G 52, zr G 87, .null, .int 0, .int 0]) (ty := tyX9 14) tyX9 tyX9_ok nmX9 rfl uw_9 14 (by decide) rfl rfl (tyX9_ok 14 (by decide)) rfl rfl (Nat.le_of_ble_eq_true rfl) rfl (Nat.le_of_ble_eq_true rfl) wF_X9_92 dX9_init_192 ?_
  refine b_iconst (y := (0 : Int32)) F dX9_init_195 rfl ?_
  refine b_istore_n F [(1, .int (0 : Int32)), (0, zr G 0)] dX9_init_196 rfl (Nat.le_of_ble_eq_true rfl) rfl ?_
  refine b_iload_n F dX9_init_197 rfl 0 rfl ?_
  refine b_aload_n F dX9_init_198 rfl 1 rfl ?_
  refine b_getR F (c := 9) (C := RX9) (T := TX9) (N := 17) (fs := [zr G 1, zr G 3, zr G 13, zr G 23, zr G 27, zr G 31, zr G 34, zr G 37, zr G 43, zr G 49, .int 0, zr G 50, zr G 52, zr G 87, zr G 96, .int 0, .int 0]) rfl uw_9 9 (by decide) (Nat.le_of_ble_eq_true rfl) rfl rfl wF_X9_56 dX9_init_199 ?_
  refine b_alen4 F (N' := 3) (f := (fun _ => none)) (y := (3 : Int32)) (Nat.le_of_ble_eq_true rfl) rfl rfl dX9_init_202 ?_
  refine b_icmp_ge F 225 dX9_init_203 rfl (fun hc => absurd hc (by decide)) (fun _ => ?_)
  refine b_aload_n F dX9_init_206 rfl 1 rfl ?_
  refine b_getR F (c := 9) (C := RX9) (T := TX9) (N := 17) (fs := [zr G 1, zr G 3, zr G 13, zr G 23, zr G 27, zr G 31, zr G 34, zr G 37, zr G 43, zr G 49, .int 0, zr G 50, zr G 52, zr G 87, zr G 96, .int 0, .int 0]) rfl uw_9 9 (by decide) (Nat.le_of_ble_eq_true rfl) rfl rfl wF_X9_56 dX9_init_207 ?_
  refine b_iload_n F dX9_init_210 rfl 0 rfl ?_
  refine b_new F (c := 7) (C := RX7) (T := TX7) (N := 13) (fs := [.int 0, .int 0, .int 0, .int 0, .int 0, .int 0, .int 0, .int 0, .null, .null, .null, .null, .null]) tyX7 tyX7_ok rfl uw_7 zcl_X9_46 zin_RX7 ini_RX7 (by decide +kernel) ⟨Nat.le_trans (Nat.le_of_ble_eq_true rfl) hcs.1, Nat.le_trans (Nat.le_of_ble_eq_true rfl) hcs.2⟩ dX9_init_211 ?_
  refine b_dup F dX9_init_214 rfl ?_
  refine b_callIN F [] [zr G 98, .int (0 : Int32), zr G 49] (n' := 104) (kBX7_init_98 x.2.1 G _ rfl) mI_X7_init rfl wN_X9_48 mi_X7_init rfl dX9_init_215 rfl ⟨Nat.le_of_ble_eq_true rfl, Nat.le_of_ble_eq_true rfl⟩ rfl (Nat.le_of_ble_eq_true rfl) ⟨Nat.le_trans (Nat.le_of_ble_eq_true rfl) hcs.1, Nat.le_trans (Nat.le_of_ble_eq_true rfl) hcs.2⟩ ?_
  refine b_aast F (N' := 3) (f := (fun _ => none)) (Nat.le_of_ble_eq_true rfl) (Nat.le_of_ble_eq_true rfl) rfl rfl (vp_in_nI (n := 0) (by decide) (by decide)) dX9_init_218 ?_
  refine b_iinc F [(1, .int (1 : Int32)), (0, zr G 0)] dX9_init_219 0 rfl rfl (Nat.le_of_ble_eq_true rfl) rfl ?_
  refine b_goto F 197 dX9_init_222 rfl ?_
  refine b_iload_n F dX9_init_197 rfl 0 rfl ?_
  refine b_aload_n F dX9_init_198 rfl 1 rfl ?_
  refine b_getR F (c := 9) (C := RX9) (T := TX9) (N := 17) (fs := [zr G 1, zr G 3, zr G 13, zr G 23, zr G 27, zr G 31, zr G 34, zr G 37, zr G 43, zr G 49, .int 0, zr G 50, zr G 52, zr G 87, zr G 96, .int 0, .int 0]) rfl uw_9 9 (by decide) (Nat.le_of_ble_eq_true rfl) rfl rfl wF_X9_56 dX9_init_199 ?_
  refine b_alen4 F (N' := 3) (f := (va_up (fun _ => none) (0 : Int32).toNatClampNeg (some (G.2.2 + 98)))) (y := (3 : Int32)) (Nat.le_of_ble_eq_true rfl) rfl rfl dX9_init_202 ?_
  refine b_icmp_ge F 225 dX9_init_203 rfl (fun hc => absurd hc (by decide)) (fun _ => ?_)
  refine b_aload_n F dX9_init_206 rfl 1 rfl ?_
  refine b_getR F (c := 9) (C := RX9) (T := TX9) (N := 17) (fs := [zr G 1, zr G 3, zr G 13, zr G 23, zr G 27, zr G 31, zr G 34, zr G 37, zr G 43, zr G 49, .int 0, zr G 50, zr G 52, zr G 87, zr G 96, .int 0, .int 0]) rfl uw_9 9 (by decide) (Nat.le_of_ble_eq_true rfl) rfl rfl wF_X9_56 dX9_init_207 ?_
  refine b_iload_n F dX9_init_210 rfl 0 rfl ?_
  refine b_new F (c := 7) (C := RX7) (T := TX7) (N := 13) (fs := [.int 0, .int 0, .int 0, .int 0, .int 0, .int 0, .int 0, .int 0, .null, .null, .null, .null, .null]) tyX7 tyX7_ok rfl uw_7 zcl_X9_46 zin_RX7 ini_RX7 (by decide +kernel) ⟨Nat.le_trans (Nat.le_of_ble_eq_true rfl) hcs.1, Nat.le_trans (Nat.le_of_ble_eq_true rfl) hcs.2⟩ dX9_init_211 ?_
  refine b_dup F dX9_init_214 rfl ?_
  refine b_callIN F [] [zr G 104, .int (1 : Int32), zr G 49] (n' := 110) (kBX7_init_104 x.2.1 G _ rfl) mI_X7_init rfl wN_X9_48 mi_X7_init rfl dX9_init_215 rfl ⟨Nat.le_of_ble_eq_true rfl, Nat.le_of_ble_eq_true rfl⟩ rfl (Nat.le_of_ble_eq_true rfl) ⟨Nat.le_trans (Nat.le_of_ble_eq_true rfl) hcs.1, Nat.le_trans (Nat.le_of_ble_eq_true rfl) hcs.2⟩ ?_
  refine b_aast F (N' := 3) (f := (va_up (fun _ => none) (0 : Int32).toNatClampNeg (some (G.2.2 + 98)))) (Nat.le_of_ble_eq_true rfl) (Nat.le_of_ble_eq_true rfl) rfl rfl (vp_in_nI (n := 1) (by decide) (by decide)) dX9_init_218 ?_
  refine b_iinc F [(1, .int (2 : Int32)), (0, zr G 0)] dX9_init_219 0 rfl rfl (Nat.le_of_ble_eq_true rfl) rfl ?_
  refine b_goto F 197 dX9_init_222 rfl ?_
  refine b_iload_n F dX9_init_197 rfl 0 rfl ?_
  refine b_aload_n F dX9_init_198 rfl 1 rfl ?_
  refine b_getR F (c := 9) (C := RX9) (T := TX9) (N := 17) (fs := [zr G 1, zr G 3, zr G 13, zr G 23, zr G 27, zr G 31, zr G 34, zr G 37, zr G 43, zr G 49, .int 0, zr G 50, zr G 52, zr G 87, zr G 96, .int 0, .int 0]) rfl uw_9 9 (by decide) (Nat.le_of_ble_eq_true rfl) rfl rfl wF_X9_56 dX9_init_199 ?_
  refine b_alen4 F (N' := 3) (f := (va_up (va_up (fun _ => none) (0 : Int32).toNatClampNeg (some (G.2.2 + 98))) (1 : Int32).toNatClampNeg (some (G.2.2 + 104)))) (y := (3 : Int32)) (Nat.le_of_ble_eq_true rfl) rfl rfl dX9_init_202 ?_
  refine b_icmp_ge F 225 dX9_init_203 rfl (fun hc => absurd hc (by decide)) (fun _ => ?_)
  refine b_aload_n F dX9_init_206 rfl 1 rfl ?_
  refine b_getR F (c := 9) (C := RX9) (T := TX9) (N := 17) (fs := [zr G 1, zr G 3, zr G 13, zr G 23, zr G 27, zr G 31, zr G 34, zr G 37, zr G 43, zr G 49, .int 0, zr G 50, zr G 52, zr G 87, zr G 96, .int 0, .int 0]) rfl uw_9 9 (by decide) (Nat.le_of_ble_eq_true rfl) rfl rfl wF_X9_56 dX9_init_207 ?_
  refine b_iload_n F dX9_init_210 rfl 0 rfl ?_
  refine b_new F (c := 7) (C := RX7) (T := TX7) (N := 13) (fs := [.int 0, .int 0, .int 0, .int 0, .int 0, .int 0, .int 0, .int 0, .null, .null, .null, .null, .null]) tyX7 tyX7_ok rfl uw_7 zcl_X9_46 zin_RX7 ini_RX7 (by decide +kernel) ⟨Nat.le_trans (Nat.le_of_ble_eq_true rfl) hcs.1, Nat.le_trans (Nat.le_of_ble_eq_true rfl) hcs.2⟩ dX9_init_211 ?_
  refine b_dup F dX9_init_214 rfl ?_
  refine b_callIN F [] [zr G 110, .int (2 : Int32), zr G 49] (n' := 116) (kBX7_init_110 x.2.1 G _ rfl) mI_X7_init rfl wN_X9_48 mi_X7_init rfl dX9_init_215 rfl ⟨Nat.le_of_ble_eq_true rfl, Nat.le_of_ble_eq_true rfl⟩ rfl (Nat.le_of_ble_eq_true rfl) ⟨Nat.le_trans (Nat.le_of_ble_eq_true rfl) hcs.1, Nat.le_trans (Nat.le_of_ble_eq_true rfl) hcs.2⟩ ?_
  refine b_aast F (N' := 3) (f := (va_up (va_up (fun _ => none) (0 : Int32).toNatClampNeg (some (G.2.2 + 98))) (1 : Int32).toNatClampNeg (some (G.2.2 + 104)))) (Nat.le_of_ble_eq_true rfl) (Nat.le_of_ble_eq_true rfl) rfl rfl (vp_in_nI (n := 2) (by decide) (by decide)) dX9_init_218 ?_
  refine b_iinc F [(1, .int (3 : Int32)), (0, zr G 0)] dX9_init_219 0 rfl rfl (Nat.le_of_ble_eq_true rfl) rfl ?_
  refine b_goto F 197 dX9_init_222 rfl ?_
  refine b_iload_n F dX9_init_197 rfl 0 rfl ?_
  refine b_aload_n F dX9_init_198 rfl 1 rfl ?_
  refine b_getR F (c := 9) (C := RX9) (T := TX9) (N := 17) (fs := [zr G 1, zr G 3, zr G 13, zr G 23, zr G 27, zr G 31, zr G 34, zr G 37, zr G 43, zr G 49, .int 0, zr G 50, zr G 52, zr G 87, zr G 96, .int 0, .int 0]) rfl uw_9 9 (by decide) (Nat.le_of_ble_eq_true rfl) rfl rfl wF_X9_56 dX9_init_199 ?_
  refine b_alen4 F (N' := 3) (f := (va_up (va_up (va_up (fun _ => none) (0 : Int32).toNatClampNeg (some (G.2.2 + 98))) (1 : Int32).toNatClampNeg (some (G.2.2 + 104))) (2 : Int32).toNatClampNeg (some (G.2.2 + 110)))) (y := (3 : Int32)) (Nat.le_of_ble_eq_true rfl) rfl rfl dX9_init_202 ?_
  refine b_icmp_ge F 225 dX9_init_203 rfl (fun _ => ?_) (fun hc => absurd (by decide) hc)
  exact b_ret F hr hk (fun _ _ => rfl) dX9_init_225

