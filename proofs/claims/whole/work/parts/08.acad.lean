theorem dX0_copy_0 : decode cX0_copy 0 = .ok (.aload_n 0, 1) := by decide +kernel
theorem dX0_copy_1 : decode cX0_copy 1 = .ok (.aload_n 1, 1) := by decide +kernel
theorem dX0_copy_2 : decode cX0_copy 2 = .ok (.getfield 43, 3) := by decide +kernel
theorem dX0_copy_5 : decode cX0_copy 5 = .ok (.putfield 43, 3) := by decide +kernel
theorem dX0_copy_8 : decode cX0_copy 8 = .ok (.aload_n 0, 1) := by decide +kernel
theorem dX0_copy_9 : decode cX0_copy 9 = .ok (.aload_n 1, 1) := by decide +kernel
theorem dX0_copy_10 : decode cX0_copy 10 = .ok (.getfield 46, 3) := by decide +kernel
theorem dX0_copy_13 : decode cX0_copy 13 = .ok (.putfield 46, 3) := by decide +kernel
theorem dX0_copy_16 : decode cX0_copy 16 = .ok (.aload_n 0, 1) := by decide +kernel
theorem dX0_copy_17 : decode cX0_copy 17 = .ok (.aload_n 1, 1) := by decide +kernel
theorem dX0_copy_18 : decode cX0_copy 18 = .ok (.getfield 9, 3) := by decide +kernel
theorem dX0_copy_21 : decode cX0_copy 21 = .ok (.putfield 9, 3) := by decide +kernel
theorem dX0_copy_24 : decode cX0_copy 24 = .ok (.aload_n 0, 1) := by decide +kernel
theorem dX0_copy_25 : decode cX0_copy 25 = .ok (.aload_n 1, 1) := by decide +kernel
theorem dX0_copy_26 : decode cX0_copy 26 = .ok (.getfield 49, 3) := by decide +kernel
theorem dX0_copy_29 : decode cX0_copy 29 = .ok (.putfield 49, 3) := by decide +kernel
theorem dX0_copy_32 : decode cX0_copy 32 = .ok (.aload_n 0, 1) := by decide +kernel
theorem dX0_copy_33 : decode cX0_copy 33 = .ok (.aload_n 1, 1) := by decide +kernel
theorem dX0_copy_34 : decode cX0_copy 34 = .ok (.getfield 52, 3) := by decide +kernel
theorem dX0_copy_37 : decode cX0_copy 37 = .ok (.putfield 52, 3) := by decide +kernel
theorem dX0_copy_40 : decode cX0_copy 40 = .ok (.aload_n 0, 1) := by decide +kernel
theorem dX0_copy_41 : decode cX0_copy 41 = .ok (.aload_n 1, 1) := by decide +kernel
theorem dX0_copy_42 : decode cX0_copy 42 = .ok (.getfield 55, 3) := by decide +kernel
theorem dX0_copy_45 : decode cX0_copy 45 = .ok (.putfield 55, 3) := by decide +kernel
theorem dX0_copy_48 : decode cX0_copy 48 = .ok (.aload_n 1, 1) := by decide +kernel
theorem dX0_copy_49 : decode cX0_copy 49 = .ok (.getfield 15, 3) := by decide +kernel
theorem dX0_copy_52 : decode cX0_copy 52 = .ok (.iconst 0, 1) := by decide +kernel
theorem dX0_copy_53 : decode cX0_copy 53 = .ok (.aload_n 0, 1) := by decide +kernel
theorem dX0_copy_54 : decode cX0_copy 54 = .ok (.getfield 15, 3) := by decide +kernel
theorem dX0_copy_57 : decode cX0_copy 57 = .ok (.iconst 0, 1) := by decide +kernel
theorem dX0_copy_58 : decode cX0_copy 58 = .ok (.bipush 6, 2) := by decide +kernel
theorem dX0_copy_60 : decode cX0_copy 60 = .ok (.invokestatic 58, 3) := by decide +kernel
theorem dX0_copy_63 : decode cX0_copy 63 = .ok (.aload_n 1, 1) := by decide +kernel
theorem dX0_copy_64 : decode cX0_copy 64 = .ok (.getfield 19, 3) := by decide +kernel
theorem dX0_copy_67 : decode cX0_copy 67 = .ok (.iconst 0, 1) := by decide +kernel
theorem dX0_copy_68 : decode cX0_copy 68 = .ok (.aload_n 0, 1) := by decide +kernel
theorem dX0_copy_69 : decode cX0_copy 69 = .ok (.getfield 19, 3) := by decide +kernel
theorem dX0_copy_72 : decode cX0_copy 72 = .ok (.iconst 0, 1) := by decide +kernel
theorem dX0_copy_73 : decode cX0_copy 73 = .ok (.bipush 16, 2) := by decide +kernel
theorem dX0_copy_75 : decode cX0_copy 75 = .ok (.invokestatic 58, 3) := by decide +kernel
theorem dX0_copy_78 : decode cX0_copy 78 = .ok (.aload_n 1, 1) := by decide +kernel
theorem dX0_copy_79 : decode cX0_copy 79 = .ok (.getfield 22, 3) := by decide +kernel
theorem dX0_copy_82 : decode cX0_copy 82 = .ok (.iconst 0, 1) := by decide +kernel
theorem dX0_copy_83 : decode cX0_copy 83 = .ok (.aload_n 0, 1) := by decide +kernel
theorem dX0_copy_84 : decode cX0_copy 84 = .ok (.getfield 22, 3) := by decide +kernel
theorem dX0_copy_87 : decode cX0_copy 87 = .ok (.iconst 0, 1) := by decide +kernel
theorem dX0_copy_88 : decode cX0_copy 88 = .ok (.bipush 16, 2) := by decide +kernel
theorem dX0_copy_90 : decode cX0_copy 90 = .ok (.invokestatic 58, 3) := by decide +kernel
theorem dX0_copy_93 : decode cX0_copy 93 = .ok (.aload_n 1, 1) := by decide +kernel
theorem dX0_copy_94 : decode cX0_copy 94 = .ok (.getfield 25, 3) := by decide +kernel
theorem dX0_copy_97 : decode cX0_copy 97 = .ok (.iconst 0, 1) := by decide +kernel
theorem dX0_copy_98 : decode cX0_copy 98 = .ok (.aload_n 0, 1) := by decide +kernel
theorem dX0_copy_99 : decode cX0_copy 99 = .ok (.getfield 25, 3) := by decide +kernel
theorem dX0_copy_102 : decode cX0_copy 102 = .ok (.iconst 0, 1) := by decide +kernel
theorem dX0_copy_103 : decode cX0_copy 103 = .ok (.bipush 12, 2) := by decide +kernel
theorem dX0_copy_105 : decode cX0_copy 105 = .ok (.invokestatic 58, 3) := by decide +kernel
theorem dX0_copy_108 : decode cX0_copy 108 = .ok (.aload_n 1, 1) := by decide +kernel
theorem dX0_copy_109 : decode cX0_copy 109 = .ok (.getfield 28, 3) := by decide +kernel
theorem dX0_copy_112 : decode cX0_copy 112 = .ok (.iconst 0, 1) := by decide +kernel
theorem dX0_copy_113 : decode cX0_copy 113 = .ok (.aload_n 0, 1) := by decide +kernel
theorem dX0_copy_114 : decode cX0_copy 114 = .ok (.getfield 28, 3) := by decide +kernel
theorem dX0_copy_117 : decode cX0_copy 117 = .ok (.iconst 0, 1) := by decide +kernel
theorem dX0_copy_118 : decode cX0_copy 118 = .ok (.bipush 12, 2) := by decide +kernel
theorem dX0_copy_120 : decode cX0_copy 120 = .ok (.invokestatic 58, 3) := by decide +kernel
theorem dX0_copy_123 : decode cX0_copy 123 = .ok (.aload_n 1, 1) := by decide +kernel
theorem dX0_copy_124 : decode cX0_copy 124 = .ok (.getfield 31, 3) := by decide +kernel
theorem dX0_copy_127 : decode cX0_copy 127 = .ok (.iconst 0, 1) := by decide +kernel
theorem dX0_copy_128 : decode cX0_copy 128 = .ok (.aload_n 0, 1) := by decide +kernel
theorem dX0_copy_129 : decode cX0_copy 129 = .ok (.getfield 31, 3) := by decide +kernel
theorem dX0_copy_132 : decode cX0_copy 132 = .ok (.iconst 0, 1) := by decide +kernel
theorem dX0_copy_133 : decode cX0_copy 133 = .ok (.bipush 12, 2) := by decide +kernel
theorem dX0_copy_135 : decode cX0_copy 135 = .ok (.invokestatic 58, 3) := by decide +kernel
theorem dX0_copy_138 : decode cX0_copy 138 = .ok (.aload_n 1, 1) := by decide +kernel
theorem dX0_copy_139 : decode cX0_copy 139 = .ok (.getfield 34, 3) := by decide +kernel
theorem dX0_copy_142 : decode cX0_copy 142 = .ok (.iconst 0, 1) := by decide +kernel
theorem dX0_copy_143 : decode cX0_copy 143 = .ok (.aload_n 0, 1) := by decide +kernel
theorem dX0_copy_144 : decode cX0_copy 144 = .ok (.getfield 34, 3) := by decide +kernel
theorem dX0_copy_147 : decode cX0_copy 147 = .ok (.iconst 0, 1) := by decide +kernel
theorem dX0_copy_148 : decode cX0_copy 148 = .ok (.bipush 12, 2) := by decide +kernel
theorem dX0_copy_150 : decode cX0_copy 150 = .ok (.invokestatic 58, 3) := by decide +kernel
theorem dX0_copy_153 : decode cX0_copy 153 = .ok (.aload_n 1, 1) := by decide +kernel
theorem dX0_copy_154 : decode cX0_copy 154 = .ok (.getfield 37, 3) := by decide +kernel
theorem dX0_copy_157 : decode cX0_copy 157 = .ok (.iconst 0, 1) := by decide +kernel
theorem dX0_copy_158 : decode cX0_copy 158 = .ok (.aload_n 0, 1) := by decide +kernel
theorem dX0_copy_159 : decode cX0_copy 159 = .ok (.getfield 37, 3) := by decide +kernel
theorem dX0_copy_162 : decode cX0_copy 162 = .ok (.iconst 0, 1) := by decide +kernel
theorem dX0_copy_163 : decode cX0_copy 163 = .ok (.bipush 12, 2) := by decide +kernel
theorem dX0_copy_165 : decode cX0_copy 165 = .ok (.invokestatic 58, 3) := by decide +kernel
theorem dX0_copy_168 : decode cX0_copy 168 = .ok (.aload_n 1, 1) := by decide +kernel
theorem dX0_copy_169 : decode cX0_copy 169 = .ok (.getfield 40, 3) := by decide +kernel
theorem dX0_copy_172 : decode cX0_copy 172 = .ok (.iconst 0, 1) := by decide +kernel
theorem dX0_copy_173 : decode cX0_copy 173 = .ok (.aload_n 0, 1) := by decide +kernel
theorem dX0_copy_174 : decode cX0_copy 174 = .ok (.getfield 40, 3) := by decide +kernel
theorem dX0_copy_177 : decode cX0_copy 177 = .ok (.iconst 0, 1) := by decide +kernel
theorem dX0_copy_178 : decode cX0_copy 178 = .ok (.bipush 12, 2) := by decide +kernel
theorem dX0_copy_180 : decode cX0_copy 180 = .ok (.invokestatic 58, 3) := by decide +kernel
theorem dX0_copy_183 : decode cX0_copy 183 = .ok (.return_, 1) := by decide +kernel
def fX0_copy (x0 : Nat) (x1 : Nat) (v : zV) : Option zV :=
  zlet (zup v x0 0 (v x1 0)) fun v_1 =>
  zlet (zup v_1 x0 1 (v_1 x1 1)) fun v_2 =>
  zlet (zup v_2 x0 2 (v_2 x1 2)) fun v_3 =>
  zlet (zup v_3 x0 3 (v_3 x1 3)) fun v_4 =>
  zlet (zup v_4 x0 4 (v_4 x1 4)) fun v_5 =>
  zlet (zup v_5 x0 5 (v_5 x1 5)) fun v_6 =>
  zcpk (zrf x1 7) (zrf x0 7) (0 : Int32) (0 : Int32) (6 : Int32) <|
  zlet (zcp v_6 (zrf x1 7) (zrf x0 7) ((0 : Int32)).toNatClampNeg ((0 : Int32)).toNatClampNeg ((6 : Int32)).toNatClampNeg) fun v_7 =>
  zcpk (zrf x1 8) (zrf x0 8) (0 : Int32) (0 : Int32) (16 : Int32) <|
  zlet (zcp v_7 (zrf x1 8) (zrf x0 8) ((0 : Int32)).toNatClampNeg ((0 : Int32)).toNatClampNeg ((16 : Int32)).toNatClampNeg) fun v_8 =>
  zcpk (zrf x1 9) (zrf x0 9) (0 : Int32) (0 : Int32) (16 : Int32) <|
  zlet (zcp v_8 (zrf x1 9) (zrf x0 9) ((0 : Int32)).toNatClampNeg ((0 : Int32)).toNatClampNeg ((16 : Int32)).toNatClampNeg) fun v_9 =>
  zcpk (zrf x1 10) (zrf x0 10) (0 : Int32) (0 : Int32) (12 : Int32) <|
  zlet (zcp v_9 (zrf x1 10) (zrf x0 10) ((0 : Int32)).toNatClampNeg ((0 : Int32)).toNatClampNeg ((12 : Int32)).toNatClampNeg) fun v_10 =>
  zcpk (zrf x1 11) (zrf x0 11) (0 : Int32) (0 : Int32) (12 : Int32) <|
  zlet (zcp v_10 (zrf x1 11) (zrf x0 11) ((0 : Int32)).toNatClampNeg ((0 : Int32)).toNatClampNeg ((12 : Int32)).toNatClampNeg) fun v_11 =>
  zcpk (zrf x1 12) (zrf x0 12) (0 : Int32) (0 : Int32) (12 : Int32) <|
  zlet (zcp v_11 (zrf x1 12) (zrf x0 12) ((0 : Int32)).toNatClampNeg ((0 : Int32)).toNatClampNeg ((12 : Int32)).toNatClampNeg) fun v_12 =>
  zcpk (zrf x1 13) (zrf x0 13) (0 : Int32) (0 : Int32) (12 : Int32) <|
  zlet (zcp v_12 (zrf x1 13) (zrf x0 13) ((0 : Int32)).toNatClampNeg ((0 : Int32)).toNatClampNeg ((12 : Int32)).toNatClampNeg) fun v_13 =>
  zcpk (zrf x1 14) (zrf x0 14) (0 : Int32) (0 : Int32) (12 : Int32) <|
  zlet (zcp v_13 (zrf x1 14) (zrf x0 14) ((0 : Int32)).toNatClampNeg ((0 : Int32)).toNatClampNeg ((12 : Int32)).toNatClampNeg) fun v_14 =>
  zcpk (zrf x1 15) (zrf x0 15) (0 : Int32) (0 : Int32) (12 : Int32) <|
  zlet (zcp v_14 (zrf x1 15) (zrf x0 15) ((0 : Int32)).toNatClampNeg ((0 : Int32)).toNatClampNeg ((12 : Int32)).toNatClampNeg) fun v_15 =>
  some v_15
set_option maxRecDepth 4000 in
theorem kX0_copy (l : Launch) (G : zG) (x0 : Nat) (t0 : zty G x0 1 0) (x1 : Nat) (t1 : zty G x1 1 0) (v : zV) (w : zV) (h : fX0_copy x0 x1 v = some w) : zMet l yX0_copy cX0_copy 2 (Option.none : Option FieldType) 1 80 0 0 [zr G x0, zr G x1] G v none w := by
  refine zM_of (own := RX0) (by decide) rfl (Nat.le_of_ble_eq_true rfl) (fun x hl F hr hk hcs => ?_)
  subst hl
  refine z_ls [(0, zr G x0), (1, zr G x1)] [0, 1] rfl ?_
  unfold fX0_copy at h
  refine z_aload_n F dX0_copy_0 rfl 0 rfl ?_
  refine z_aload_n F dX0_copy_1 rfl 1 rfl ?_
  refine zg_0_0 F t1 wF_X0_43 dX0_copy_2 ?_
  refine zp_0_0 F t0 wF_X0_43 dX0_copy_5 ?_
  obtain ⟨v_1, ev_1, h⟩ := zlet_ex h
  refine z_heap ev_1 ?_
  refine z_aload_n F dX0_copy_8 rfl 0 rfl ?_
  refine z_aload_n F dX0_copy_9 rfl 1 rfl ?_
  refine zg_0_1 F t1 wF_X0_46 dX0_copy_10 ?_
  refine zp_0_1 F t0 wF_X0_46 dX0_copy_13 ?_
  obtain ⟨v_2, ev_2, h⟩ := zlet_ex h
  refine z_heap ev_2 ?_
  refine z_aload_n F dX0_copy_16 rfl 0 rfl ?_
  refine z_aload_n F dX0_copy_17 rfl 1 rfl ?_
  refine zg_0_2 F t1 wF_X0_9 dX0_copy_18 ?_
  refine zp_0_2 F t0 wF_X0_9 dX0_copy_21 ?_
  obtain ⟨v_3, ev_3, h⟩ := zlet_ex h
  refine z_heap ev_3 ?_
  refine z_aload_n F dX0_copy_24 rfl 0 rfl ?_
  refine z_aload_n F dX0_copy_25 rfl 1 rfl ?_
  refine zg_0_3 F t1 wF_X0_49 dX0_copy_26 ?_
  refine zp_0_3 F t0 wF_X0_49 dX0_copy_29 ?_
  obtain ⟨v_4, ev_4, h⟩ := zlet_ex h
  refine z_heap ev_4 ?_
  refine z_aload_n F dX0_copy_32 rfl 0 rfl ?_
  refine z_aload_n F dX0_copy_33 rfl 1 rfl ?_
  refine zg_0_4 F t1 wF_X0_52 dX0_copy_34 ?_
  refine zp_0_4 F t0 wF_X0_52 dX0_copy_37 ?_
  obtain ⟨v_5, ev_5, h⟩ := zlet_ex h
  refine z_heap ev_5 ?_
  refine z_aload_n F dX0_copy_40 rfl 0 rfl ?_
  refine z_aload_n F dX0_copy_41 rfl 1 rfl ?_
  refine zg_0_5 F t1 wF_X0_55 dX0_copy_42 ?_
  refine zp_0_5 F t0 wF_X0_55 dX0_copy_45 ?_
  obtain ⟨v_6, ev_6, h⟩ := zlet_ex h
  refine z_heap ev_6 ?_
  refine z_aload_n F dX0_copy_48 rfl 1 rfl ?_
  refine zg_0_7 F t1 wF_X0_15 dX0_copy_49 ?_
  refine z_iconst (y := (0 : Int32)) F dX0_copy_52 rfl ?_
  refine z_aload_n F dX0_copy_53 rfl 0 rfl ?_
  refine zg_0_7 F t0 wF_X0_15 dX0_copy_54 ?_
  refine z_iconst (y := (0 : Int32)) F dX0_copy_57 rfl ?_
  refine z_bipush (y := (6 : Int32)) F dX0_copy_58 rfl ?_
  obtain ⟨hc60, h⟩ := zcpk_ex h
  refine z_copy F (zt_f tc_0_7 t1) (zt_f tc_0_7 t0) wM_X0_58 dX0_copy_60 hc60 (Nat.le_of_ble_eq_true rfl) (Nat.le_of_ble_eq_true rfl) (Nat.le_of_ble_eq_true rfl) ?_
  obtain ⟨v_7, ev_7, h⟩ := zlet_ex h
  refine z_heap ev_7 ?_
  refine z_aload_n F dX0_copy_63 rfl 1 rfl ?_
  refine zg_0_8 F t1 wF_X0_19 dX0_copy_64 ?_
  refine z_iconst (y := (0 : Int32)) F dX0_copy_67 rfl ?_
  refine z_aload_n F dX0_copy_68 rfl 0 rfl ?_
  refine zg_0_8 F t0 wF_X0_19 dX0_copy_69 ?_
  refine z_iconst (y := (0 : Int32)) F dX0_copy_72 rfl ?_
  refine z_bipush (y := (16 : Int32)) F dX0_copy_73 rfl ?_
  obtain ⟨hc75, h⟩ := zcpk_ex h
  refine z_copy F (zt_f tc_0_8 t1) (zt_f tc_0_8 t0) wM_X0_58 dX0_copy_75 hc75 (Nat.le_of_ble_eq_true rfl) (Nat.le_of_ble_eq_true rfl) (Nat.le_of_ble_eq_true rfl) ?_
  obtain ⟨v_8, ev_8, h⟩ := zlet_ex h
  refine z_heap ev_8 ?_
  refine z_aload_n F dX0_copy_78 rfl 1 rfl ?_
  refine zg_0_9 F t1 wF_X0_22 dX0_copy_79 ?_
  refine z_iconst (y := (0 : Int32)) F dX0_copy_82 rfl ?_
  refine z_aload_n F dX0_copy_83 rfl 0 rfl ?_
  refine zg_0_9 F t0 wF_X0_22 dX0_copy_84 ?_
  refine z_iconst (y := (0 : Int32)) F dX0_copy_87 rfl ?_
  refine z_bipush (y := (16 : Int32)) F dX0_copy_88 rfl ?_
  obtain ⟨hc90, h⟩ := zcpk_ex h
  refine z_copy F (zt_f tc_0_9 t1) (zt_f tc_0_9 t0) wM_X0_58 dX0_copy_90 hc90 (Nat.le_of_ble_eq_true rfl) (Nat.le_of_ble_eq_true rfl) (Nat.le_of_ble_eq_true rfl) ?_
  obtain ⟨v_9, ev_9, h⟩ := zlet_ex h
  refine z_heap ev_9 ?_
  refine z_aload_n F dX0_copy_93 rfl 1 rfl ?_
  refine zg_0_10 F t1 wF_X0_25 dX0_copy_94 ?_
  refine z_iconst (y := (0 : Int32)) F dX0_copy_97 rfl ?_
  refine z_aload_n F dX0_copy_98 rfl 0 rfl ?_
  refine zg_0_10 F t0 wF_X0_25 dX0_copy_99 ?_
  refine z_iconst (y := (0 : Int32)) F dX0_copy_102 rfl ?_
  refine z_bipush (y := (12 : Int32)) F dX0_copy_103 rfl ?_
  obtain ⟨hc105, h⟩ := zcpk_ex h
  refine z_copy F (zt_f tc_0_10 t1) (zt_f tc_0_10 t0) wM_X0_58 dX0_copy_105 hc105 (Nat.le_of_ble_eq_true rfl) (Nat.le_of_ble_eq_true rfl) (Nat.le_of_ble_eq_true rfl) ?_
  obtain ⟨v_10, ev_10, h⟩ := zlet_ex h
  refine z_heap ev_10 ?_
  refine z_aload_n F dX0_copy_108 rfl 1 rfl ?_
  refine zg_0_11 F t1 wF_X0_28 dX0_copy_109 ?_
  refine z_iconst (y := (0 : Int32)) F dX0_copy_112 rfl ?_
  refine z_aload_n F dX0_copy_113 rfl 0 rfl ?_
  refine zg_0_11 F t0 wF_X0_28 dX0_copy_114 ?_
  refine z_iconst (y := (0 : Int32)) F dX0_copy_117 rfl ?_
  refine z_bipush (y := (12 : Int32)) F dX0_copy_118 rfl ?_
  obtain ⟨hc120, h⟩ := zcpk_ex h
  refine z_copy F (zt_f tc_0_11 t1) (zt_f tc_0_11 t0) wM_X0_58 dX0_copy_120 hc120 (Nat.le_of_ble_eq_true rfl) (Nat.le_of_ble_eq_true rfl) (Nat.le_of_ble_eq_true rfl) ?_
  obtain ⟨v_11, ev_11, h⟩ := zlet_ex h
  refine z_heap ev_11 ?_
  refine z_aload_n F dX0_copy_123 rfl 1 rfl ?_
  refine zg_0_12 F t1 wF_X0_31 dX0_copy_124 ?_
  refine z_iconst (y := (0 : Int32)) F dX0_copy_127 rfl ?_
  refine z_aload_n F dX0_copy_128 rfl 0 rfl ?_
  refine zg_0_12 F t0 wF_X0_31 dX0_copy_129 ?_
  refine z_iconst (y := (0 : Int32)) F dX0_copy_132 rfl ?_
  refine z_bipush (y := (12 : Int32)) F dX0_copy_133 rfl ?_
  obtain ⟨hc135, h⟩ := zcpk_ex h
  refine z_copy F (zt_f tc_0_12 t1) (zt_f tc_0_12 t0) wM_X0_58 dX0_copy_135 hc135 (Nat.le_of_ble_eq_true rfl) (Nat.le_of_ble_eq_true rfl) (Nat.le_of_ble_eq_true rfl) ?_
  obtain ⟨v_12, ev_12, h⟩ := zlet_ex h
  refine z_heap ev_12 ?_
  refine z_aload_n F dX0_copy_138 rfl 1 rfl ?_
  refine zg_0_13 F t1 wF_X0_34 dX0_copy_139 ?_
  refine z_iconst (y := (0 : Int32)) F dX0_copy_142 rfl ?_
  refine z_aload_n F dX0_copy_143 rfl 0 rfl ?_
  refine zg_0_13 F t0 wF_X0_34 dX0_copy_144 ?_
  refine z_iconst (y := (0 : Int32)) F dX0_copy_147 rfl ?_
  refine z_bipush (y := (12 : Int32)) F dX0_copy_148 rfl ?_
  obtain ⟨hc150, h⟩ := zcpk_ex h
  refine z_copy F (zt_f tc_0_13 t1) (zt_f tc_0_13 t0) wM_X0_58 dX0_copy_150 hc150 (Nat.le_of_ble_eq_true rfl) (Nat.le_of_ble_eq_true rfl) (Nat.le_of_ble_eq_true rfl) ?_
  obtain ⟨v_13, ev_13, h⟩ := zlet_ex h
  refine z_heap ev_13 ?_
  refine z_aload_n F dX0_copy_153 rfl 1 rfl ?_
  refine zg_0_14 F t1 wF_X0_37 dX0_copy_154 ?_
  refine z_iconst (y := (0 : Int32)) F dX0_copy_157 rfl ?_
  refine z_aload_n F dX0_copy_158 rfl 0 rfl ?_
  refine zg_0_14 F t0 wF_X0_37 dX0_copy_159 ?_
  refine z_iconst (y := (0 : Int32)) F dX0_copy_162 rfl ?_
  refine z_bipush (y := (12 : Int32)) F dX0_copy_163 rfl ?_
  obtain ⟨hc165, h⟩ := zcpk_ex h
  refine z_copy F (zt_f tc_0_14 t1) (zt_f tc_0_14 t0) wM_X0_58 dX0_copy_165 hc165 (Nat.le_of_ble_eq_true rfl) (Nat.le_of_ble_eq_true rfl) (Nat.le_of_ble_eq_true rfl) ?_
  obtain ⟨v_14, ev_14, h⟩ := zlet_ex h
  refine z_heap ev_14 ?_
  refine z_aload_n F dX0_copy_168 rfl 1 rfl ?_
  refine zg_0_15 F t1 wF_X0_40 dX0_copy_169 ?_
  refine z_iconst (y := (0 : Int32)) F dX0_copy_172 rfl ?_
  refine z_aload_n F dX0_copy_173 rfl 0 rfl ?_
  refine zg_0_15 F t0 wF_X0_40 dX0_copy_174 ?_
  refine z_iconst (y := (0 : Int32)) F dX0_copy_177 rfl ?_
  refine z_bipush (y := (12 : Int32)) F dX0_copy_178 rfl ?_
  obtain ⟨hc180, h⟩ := zcpk_ex h
  refine z_copy F (zt_f tc_0_15 t1) (zt_f tc_0_15 t0) wM_X0_58 dX0_copy_180 hc180 (Nat.le_of_ble_eq_true rfl) (Nat.le_of_ble_eq_true rfl) (Nat.le_of_ble_eq_true rfl) ?_
  obtain ⟨v_15, ev_15, h⟩ := zlet_ex h
  refine z_heap ev_15 ?_
  cases h
  exact z_retv F hr hk dX0_copy_183

theorem dX0_readKind_0 : decode cX0_readKind 0 = .ok (.aload_n 0, 1) := by decide +kernel
theorem dX0_readKind_1 : decode cX0_readKind 1 = .ok (.ldc 116, 2) := by decide +kernel
theorem dX0_readKind_3 : decode cX0_readKind 3 = .ok (.invokevirtual 118, 3) := by decide +kernel
theorem dX0_readKind_6 : decode cX0_readKind 6 = .ok (.ifCond .eq 5, 3) := by decide +kernel
theorem dX0_readKind_9 : decode cX0_readKind 9 = .ok (.iconst 0, 1) := by decide +kernel
theorem dX0_readKind_10 : decode cX0_readKind 10 = .ok (.ireturn, 1) := by decide +kernel
theorem dX0_readKind_11 : decode cX0_readKind 11 = .ok (.aload_n 0, 1) := by decide +kernel
theorem dX0_readKind_12 : decode cX0_readKind 12 = .ok (.ldc 122, 2) := by decide +kernel
theorem dX0_readKind_14 : decode cX0_readKind 14 = .ok (.invokevirtual 118, 3) := by decide +kernel
theorem dX0_readKind_17 : decode cX0_readKind 17 = .ok (.ifCond .eq 5, 3) := by decide +kernel
theorem dX0_readKind_20 : decode cX0_readKind 20 = .ok (.iconst 1, 1) := by decide +kernel
theorem dX0_readKind_21 : decode cX0_readKind 21 = .ok (.ireturn, 1) := by decide +kernel
theorem dX0_readKind_22 : decode cX0_readKind 22 = .ok (.aload_n 0, 1) := by decide +kernel
theorem dX0_readKind_23 : decode cX0_readKind 23 = .ok (.ldc 124, 2) := by decide +kernel
theorem dX0_readKind_25 : decode cX0_readKind 25 = .ok (.invokevirtual 118, 3) := by decide +kernel
theorem dX0_readKind_28 : decode cX0_readKind 28 = .ok (.ifCond .eq 5, 3) := by decide +kernel
theorem dX0_readKind_31 : decode cX0_readKind 31 = .ok (.iconst 2, 1) := by decide +kernel
theorem dX0_readKind_32 : decode cX0_readKind 32 = .ok (.ireturn, 1) := by decide +kernel
theorem dX0_readKind_33 : decode cX0_readKind 33 = .ok (.aload_n 0, 1) := by decide +kernel
theorem dX0_readKind_34 : decode cX0_readKind 34 = .ok (.ldc 126, 2) := by decide +kernel
theorem dX0_readKind_36 : decode cX0_readKind 36 = .ok (.invokevirtual 118, 3) := by decide +kernel
theorem dX0_readKind_39 : decode cX0_readKind 39 = .ok (.ifCond .eq 5, 3) := by decide +kernel
theorem dX0_readKind_42 : decode cX0_readKind 42 = .ok (.iconst 3, 1) := by decide +kernel
theorem dX0_readKind_43 : decode cX0_readKind 43 = .ok (.ireturn, 1) := by decide +kernel
theorem dX0_readKind_44 : decode cX0_readKind 44 = .ok (.aload_n 0, 1) := by decide +kernel
theorem dX0_readKind_45 : decode cX0_readKind 45 = .ok (.ldc 127, 2) := by decide +kernel
theorem dX0_readKind_47 : decode cX0_readKind 47 = .ok (.invokevirtual 118, 3) := by decide +kernel
theorem dX0_readKind_50 : decode cX0_readKind 50 = .ok (.ifCond .eq 5, 3) := by decide +kernel
theorem dX0_readKind_53 : decode cX0_readKind 53 = .ok (.iconst 4, 1) := by decide +kernel
theorem dX0_readKind_54 : decode cX0_readKind 54 = .ok (.ireturn, 1) := by decide +kernel
theorem dX0_readKind_55 : decode cX0_readKind 55 = .ok (.aload_n 0, 1) := by decide +kernel
theorem dX0_readKind_56 : decode cX0_readKind 56 = .ok (.ldc 129, 2) := by decide +kernel
theorem dX0_readKind_58 : decode cX0_readKind 58 = .ok (.invokevirtual 118, 3) := by decide +kernel
theorem dX0_readKind_61 : decode cX0_readKind 61 = .ok (.ifCond .eq 7, 3) := by decide +kernel
theorem dX0_readKind_64 : decode cX0_readKind 64 = .ok (.iconst 5, 1) := by decide +kernel
theorem dX0_readKind_65 : decode cX0_readKind 65 = .ok (.goto 4, 3) := by decide +kernel
theorem dX0_readKind_68 : decode cX0_readKind 68 = .ok (.iconst (-1), 1) := by decide +kernel
theorem dX0_readKind_69 : decode cX0_readKind 69 = .ok (.ireturn, 1) := by decide +kernel
def fX0_readKind (x0 : Nat) (v : zV) : Option (Int32 × zV) :=
  zbind (fX8_takesWord x0 0 v) fun r_2 v_1 =>
  if r_2 = (0 : Int32) then
    zbind (fX8_takesWord x0 1 v_1) fun r_4 v_3 =>
    if r_4 = (0 : Int32) then
      zbind (fX8_takesWord x0 2 v_3) fun r_6 v_5 =>
      if r_6 = (0 : Int32) then
        zbind (fX8_takesWord x0 3 v_5) fun r_8 v_7 =>
        if r_8 = (0 : Int32) then
          zbind (fX8_takesWord x0 4 v_7) fun r_10 v_9 =>
          if r_10 = (0 : Int32) then
            zbind (fX8_takesWord x0 5 v_9) fun r_12 v_11 =>
            if r_12 = (0 : Int32) then
              some ((-1 : Int32), v_11)
            else
              some ((5 : Int32), v_11)
          else
            some ((4 : Int32), v_9)
        else
          some ((3 : Int32), v_7)
      else
        some ((2 : Int32), v_5)
    else
      some ((1 : Int32), v_3)
  else
    some ((0 : Int32), v_1)
set_option maxRecDepth 4000 in
theorem kX0_readKind (l : Launch) (G : zG) (x0 : Nat) (t0 : zty G x0 1 8) (v : zV) (r : Int32) (w : zV) (h : fX0_readKind x0 v = some (r, w)) : zMet l yX0_readKind cX0_readKind 1 (Option.some FieldType.int) 6 224 0 0 [zr G x0] G v (some (.int r)) w := by
  refine zM_of (own := RX0) (by decide) rfl (Nat.le_of_ble_eq_true rfl) (fun x hl F hr hk hcs => ?_)
  subst hl
  refine z_ls [(0, zr G x0)] [0] rfl ?_
  unfold fX0_readKind at h
  refine z_aload_n F dX0_readKind_0 rfl 0 rfl ?_
  refine z_ldcs F 0 rfl (by decide) kS_X0_116 dX0_readKind_1 ?_
  obtain ⟨r_2, v_1, hq3, h⟩ := zbind_ex h
  refine z_callVi F [zs G 0] [] (kX8_takesWord x.2.1 G x0 t0 0 (by decide) v r_2 v_1 hq3) mI_X8_takesWord (c := 8) rfl t0 wM_X0_118 mi_X8_takesWord sl_X8_takesWord dX0_readKind_3 rfl ⟨Nat.le_of_ble_eq_true rfl, Nat.le_of_ble_eq_true rfl⟩ rfl (Nat.le_of_ble_eq_true rfl) ⟨Nat.zero_le _, Nat.zero_le _⟩ ?_
  refine z_if_eq F 11 dX0_readKind_6 rfl (fun hc => ?_) (fun hc => ?_)
  · replace h := zif_t hc h
    refine z_aload_n F dX0_readKind_11 rfl 0 rfl ?_
    refine z_ldcs F 1 rfl (by decide) kS_X0_122 dX0_readKind_12 ?_
    obtain ⟨r_4, v_3, hq14, h⟩ := zbind_ex h
    refine z_callVi F [zs G 1] [] (kX8_takesWord x.2.1 G x0 t0 1 (by decide) v_1 r_4 v_3 hq14) mI_X8_takesWord (c := 8) rfl t0 wM_X0_118 mi_X8_takesWord sl_X8_takesWord dX0_readKind_14 rfl ⟨Nat.le_of_ble_eq_true rfl, Nat.le_of_ble_eq_true rfl⟩ rfl (Nat.le_of_ble_eq_true rfl) ⟨Nat.zero_le _, Nat.zero_le _⟩ ?_
    refine z_if_eq F 22 dX0_readKind_17 rfl (fun hc => ?_) (fun hc => ?_)
    · replace h := zif_t hc h
      refine z_aload_n F dX0_readKind_22 rfl 0 rfl ?_
      refine z_ldcs F 2 rfl (by decide) kS_X0_124 dX0_readKind_23 ?_
      obtain ⟨r_6, v_5, hq25, h⟩ := zbind_ex h
      refine z_callVi F [zs G 2] [] (kX8_takesWord x.2.1 G x0 t0 2 (by decide) v_3 r_6 v_5 hq25) mI_X8_takesWord (c := 8) rfl t0 wM_X0_118 mi_X8_takesWord sl_X8_takesWord dX0_readKind_25 rfl ⟨Nat.le_of_ble_eq_true rfl, Nat.le_of_ble_eq_true rfl⟩ rfl (Nat.le_of_ble_eq_true rfl) ⟨Nat.zero_le _, Nat.zero_le _⟩ ?_
      refine z_if_eq F 33 dX0_readKind_28 rfl (fun hc => ?_) (fun hc => ?_)
      · replace h := zif_t hc h
        refine z_aload_n F dX0_readKind_33 rfl 0 rfl ?_
        refine z_ldcs F 3 rfl (by decide) kS_X0_126 dX0_readKind_34 ?_
        obtain ⟨r_8, v_7, hq36, h⟩ := zbind_ex h
        refine z_callVi F [zs G 3] [] (kX8_takesWord x.2.1 G x0 t0 3 (by decide) v_5 r_8 v_7 hq36) mI_X8_takesWord (c := 8) rfl t0 wM_X0_118 mi_X8_takesWord sl_X8_takesWord dX0_readKind_36 rfl ⟨Nat.le_of_ble_eq_true rfl, Nat.le_of_ble_eq_true rfl⟩ rfl (Nat.le_of_ble_eq_true rfl) ⟨Nat.zero_le _, Nat.zero_le _⟩ ?_
        refine z_if_eq F 44 dX0_readKind_39 rfl (fun hc => ?_) (fun hc => ?_)
        · replace h := zif_t hc h
          refine z_aload_n F dX0_readKind_44 rfl 0 rfl ?_
          refine z_ldcs F 4 rfl (by decide) kS_X0_127 dX0_readKind_45 ?_
          obtain ⟨r_10, v_9, hq47, h⟩ := zbind_ex h
          refine z_callVi F [zs G 4] [] (kX8_takesWord x.2.1 G x0 t0 4 (by decide) v_7 r_10 v_9 hq47) mI_X8_takesWord (c := 8) rfl t0 wM_X0_118 mi_X8_takesWord sl_X8_takesWord dX0_readKind_47 rfl ⟨Nat.le_of_ble_eq_true rfl, Nat.le_of_ble_eq_true rfl⟩ rfl (Nat.le_of_ble_eq_true rfl) ⟨Nat.zero_le _, Nat.zero_le _⟩ ?_
          refine z_if_eq F 55 dX0_readKind_50 rfl (fun hc => ?_) (fun hc => ?_)
          · replace h := zif_t hc h
            refine z_aload_n F dX0_readKind_55 rfl 0 rfl ?_
            refine z_ldcs F 5 rfl (by decide) kS_X0_129 dX0_readKind_56 ?_
            obtain ⟨r_12, v_11, hq58, h⟩ := zbind_ex h
            refine z_callVi F [zs G 5] [] (kX8_takesWord x.2.1 G x0 t0 5 (by decide) v_9 r_12 v_11 hq58) mI_X8_takesWord (c := 8) rfl t0 wM_X0_118 mi_X8_takesWord sl_X8_takesWord dX0_readKind_58 rfl ⟨Nat.le_of_ble_eq_true rfl, Nat.le_of_ble_eq_true rfl⟩ rfl (Nat.le_of_ble_eq_true rfl) ⟨Nat.zero_le _, Nat.zero_le _⟩ ?_
            refine z_if_eq F 68 dX0_readKind_61 rfl (fun hc => ?_) (fun hc => ?_)
            · replace h := zif_t hc h
              refine z_iconst (y := (-1 : Int32)) F dX0_readKind_68 rfl ?_
              cases h
              exact z_reti F hr hk dX0_readKind_69
            · replace h := zif_f hc h
              refine z_iconst (y := (5 : Int32)) F dX0_readKind_64 rfl ?_
              refine z_goto F 69 dX0_readKind_65 rfl ?_
              cases h
              exact z_reti F hr hk dX0_readKind_69
          · replace h := zif_f hc h
            refine z_iconst (y := (4 : Int32)) F dX0_readKind_53 rfl ?_
            cases h
            exact z_reti F hr hk dX0_readKind_54
        · replace h := zif_f hc h
          refine z_iconst (y := (3 : Int32)) F dX0_readKind_42 rfl ?_
          cases h
          exact z_reti F hr hk dX0_readKind_43
      · replace h := zif_f hc h
        refine z_iconst (y := (2 : Int32)) F dX0_readKind_31 rfl ?_
        cases h
        exact z_reti F hr hk dX0_readKind_32
    · replace h := zif_f hc h
      refine z_iconst (y := (1 : Int32)) F dX0_readKind_20 rfl ?_
      cases h
      exact z_reti F hr hk dX0_readKind_21
  · replace h := zif_f hc h
    refine z_iconst (y := (0 : Int32)) F dX0_readKind_9 rfl ?_
    cases h
    exact z_reti F hr hk dX0_readKind_10

theorem dX0_faultOf_0 : decode cX0_faultOf 0 = .ok (.iload_n 1, 1) := by decide +kernel
theorem dX0_faultOf_1 : decode cX0_faultOf 1 = .ok (.tableswitch 126 0 4 #[35, 59, 74, 91, 111], 35) := by decide +kernel
theorem dX0_faultOf_36 : decode cX0_faultOf 36 = .ok (.aload_n 0, 1) := by decide +kernel
theorem dX0_faultOf_37 : decode cX0_faultOf 37 = .ok (.getfield 43, 3) := by decide +kernel
theorem dX0_faultOf_40 : decode cX0_faultOf 40 = .ok (.bipush 6, 2) := by decide +kernel
theorem dX0_faultOf_42 : decode cX0_faultOf 42 = .ok (.if_icmp .lt 5, 3) := by decide +kernel
theorem dX0_faultOf_45 : decode cX0_faultOf 45 = .ok (.iconst 3, 1) := by decide +kernel
theorem dX0_faultOf_46 : decode cX0_faultOf 46 = .ok (.ireturn, 1) := by decide +kernel
theorem dX0_faultOf_47 : decode cX0_faultOf 47 = .ok (.aload_n 0, 1) := by decide +kernel
theorem dX0_faultOf_48 : decode cX0_faultOf 48 = .ok (.getfield 46, 3) := by decide +kernel
theorem dX0_faultOf_51 : decode cX0_faultOf 51 = .ok (.ifCond .le 7, 3) := by decide +kernel
theorem dX0_faultOf_54 : decode cX0_faultOf 54 = .ok (.iconst 4, 1) := by decide +kernel
theorem dX0_faultOf_55 : decode cX0_faultOf 55 = .ok (.goto 4, 3) := by decide +kernel
theorem dX0_faultOf_58 : decode cX0_faultOf 58 = .ok (.iconst 0, 1) := by decide +kernel
theorem dX0_faultOf_59 : decode cX0_faultOf 59 = .ok (.ireturn, 1) := by decide +kernel
theorem dX0_faultOf_60 : decode cX0_faultOf 60 = .ok (.aload_n 0, 1) := by decide +kernel
theorem dX0_faultOf_61 : decode cX0_faultOf 61 = .ok (.getfield 46, 3) := by decide +kernel
theorem dX0_faultOf_64 : decode cX0_faultOf 64 = .ok (.bipush 16, 2) := by decide +kernel
theorem dX0_faultOf_66 : decode cX0_faultOf 66 = .ok (.if_icmp .lt 7, 3) := by decide +kernel
theorem dX0_faultOf_69 : decode cX0_faultOf 69 = .ok (.iconst 3, 1) := by decide +kernel
theorem dX0_faultOf_70 : decode cX0_faultOf 70 = .ok (.goto 4, 3) := by decide +kernel
theorem dX0_faultOf_73 : decode cX0_faultOf 73 = .ok (.iconst 0, 1) := by decide +kernel
theorem dX0_faultOf_74 : decode cX0_faultOf 74 = .ok (.ireturn, 1) := by decide +kernel
theorem dX0_faultOf_75 : decode cX0_faultOf 75 = .ok (.aload_n 0, 1) := by decide +kernel
theorem dX0_faultOf_76 : decode cX0_faultOf 76 = .ok (.getfield 49, 3) := by decide +kernel
theorem dX0_faultOf_79 : decode cX0_faultOf 79 = .ok (.aload_n 0, 1) := by decide +kernel
theorem dX0_faultOf_80 : decode cX0_faultOf 80 = .ok (.getfield 9, 3) := by decide +kernel
theorem dX0_faultOf_83 : decode cX0_faultOf 83 = .ok (.if_icmp .lt 7, 3) := by decide +kernel
theorem dX0_faultOf_86 : decode cX0_faultOf 86 = .ok (.iconst 3, 1) := by decide +kernel
theorem dX0_faultOf_87 : decode cX0_faultOf 87 = .ok (.goto 4, 3) := by decide +kernel
theorem dX0_faultOf_90 : decode cX0_faultOf 90 = .ok (.iconst 0, 1) := by decide +kernel
theorem dX0_faultOf_91 : decode cX0_faultOf 91 = .ok (.ireturn, 1) := by decide +kernel
theorem dX0_faultOf_92 : decode cX0_faultOf 92 = .ok (.aload_n 0, 1) := by decide +kernel
theorem dX0_faultOf_93 : decode cX0_faultOf 93 = .ok (.getfield 49, 3) := by decide +kernel
theorem dX0_faultOf_96 : decode cX0_faultOf 96 = .ok (.ifCond .gt 10, 3) := by decide +kernel
theorem dX0_faultOf_99 : decode cX0_faultOf 99 = .ok (.aload_n 0, 1) := by decide +kernel
theorem dX0_faultOf_100 : decode cX0_faultOf 100 = .ok (.getfield 64, 3) := by decide +kernel
theorem dX0_faultOf_103 : decode cX0_faultOf 103 = .ok (.ifCond .eq 7, 3) := by decide +kernel
theorem dX0_faultOf_106 : decode cX0_faultOf 106 = .ok (.iconst 4, 1) := by decide +kernel
theorem dX0_faultOf_107 : decode cX0_faultOf 107 = .ok (.goto 4, 3) := by decide +kernel
theorem dX0_faultOf_110 : decode cX0_faultOf 110 = .ok (.iconst 0, 1) := by decide +kernel
theorem dX0_faultOf_111 : decode cX0_faultOf 111 = .ok (.ireturn, 1) := by decide +kernel
theorem dX0_faultOf_112 : decode cX0_faultOf 112 = .ok (.aload_n 0, 1) := by decide +kernel
theorem dX0_faultOf_113 : decode cX0_faultOf 113 = .ok (.getfield 52, 3) := by decide +kernel
theorem dX0_faultOf_116 : decode cX0_faultOf 116 = .ok (.bipush 12, 2) := by decide +kernel
theorem dX0_faultOf_118 : decode cX0_faultOf 118 = .ok (.if_icmp .lt 7, 3) := by decide +kernel
theorem dX0_faultOf_121 : decode cX0_faultOf 121 = .ok (.iconst 3, 1) := by decide +kernel
theorem dX0_faultOf_122 : decode cX0_faultOf 122 = .ok (.goto 4, 3) := by decide +kernel
theorem dX0_faultOf_125 : decode cX0_faultOf 125 = .ok (.iconst 0, 1) := by decide +kernel
theorem dX0_faultOf_126 : decode cX0_faultOf 126 = .ok (.ireturn, 1) := by decide +kernel
theorem dX0_faultOf_127 : decode cX0_faultOf 127 = .ok (.aload_n 0, 1) := by decide +kernel
theorem dX0_faultOf_128 : decode cX0_faultOf 128 = .ok (.getfield 55, 3) := by decide +kernel
theorem dX0_faultOf_131 : decode cX0_faultOf 131 = .ok (.bipush 12, 2) := by decide +kernel
theorem dX0_faultOf_133 : decode cX0_faultOf 133 = .ok (.if_icmp .lt 7, 3) := by decide +kernel
theorem dX0_faultOf_136 : decode cX0_faultOf 136 = .ok (.iconst 3, 1) := by decide +kernel
theorem dX0_faultOf_137 : decode cX0_faultOf 137 = .ok (.goto 4, 3) := by decide +kernel
theorem dX0_faultOf_140 : decode cX0_faultOf 140 = .ok (.iconst 0, 1) := by decide +kernel
theorem dX0_faultOf_141 : decode cX0_faultOf 141 = .ok (.ireturn, 1) := by decide +kernel
def fX0_faultOf (x0 : Nat) (x1 : Int32) (v : zV) : Option (Int32 × zV) :=
  if x1 = (0 : Int32) then
    if (v x0 0) < (6 : Int32) then
      if (v x0 1) ≤ (0 : Int32) then
        some ((0 : Int32), v)
      else
        some ((4 : Int32), v)
    else
      some ((3 : Int32), v)
  else
    if x1 = (1 : Int32) then
      if (v x0 1) < (16 : Int32) then
        some ((0 : Int32), v)
      else
        some ((3 : Int32), v)
    else
      if x1 = (2 : Int32) then
        if (v x0 3) < (v x0 2) then
          some ((0 : Int32), v)
        else
          some ((3 : Int32), v)
      else
        if x1 = (3 : Int32) then
          if (0 : Int32) < (v x0 3) then
            some ((4 : Int32), v)
          else
            if (v x0 6) = (0 : Int32) then
              some ((0 : Int32), v)
            else
              some ((4 : Int32), v)
        else
          if x1 = (4 : Int32) then
            if (v x0 4) < (12 : Int32) then
              some ((0 : Int32), v)
            else
              some ((3 : Int32), v)
          else
            if (v x0 5) < (12 : Int32) then
              some ((0 : Int32), v)
            else
              some ((3 : Int32), v)
set_option maxRecDepth 4000 in
theorem kX0_faultOf (l : Launch) (G : zG) (x0 : Nat) (t0 : zty G x0 1 0) (x1 : Int32) (v : zV) (r : Int32) (w : zV) (h : fX0_faultOf x0 x1 v = some (r, w)) : zMet l yX0_faultOf cX0_faultOf 2 (Option.some FieldType.int) 1 80 0 0 [zr G x0, .int x1] G v (some (.int r)) w := by
  refine zM_of (own := RX0) (by decide) rfl (Nat.le_of_ble_eq_true rfl) (fun x hl F hr hk hcs => ?_)
  subst hl
  refine z_ls [(0, zr G x0), (1, .int x1)] [0, 1] rfl ?_
  unfold fX0_faultOf at h
  refine z_iload_n F dX0_faultOf_0 rfl 1 rfl ?_
  by_cases hc : x1 = (0 : Int32)
  · replace h := zif_t hc h
    refine z_swIn F 36 hc dX0_faultOf_1 (by decide) (by decide) rfl rfl ?_
    refine z_aload_n F dX0_faultOf_36 rfl 0 rfl ?_
    refine zg_0_0 F t0 wF_X0_43 dX0_faultOf_37 ?_
    refine z_bipush (y := (6 : Int32)) F dX0_faultOf_40 rfl ?_
    refine z_icmp_lt F 47 dX0_faultOf_42 rfl (fun hc => ?_) (fun hc => ?_)
    · replace h := zif_t hc h
      refine z_aload_n F dX0_faultOf_47 rfl 0 rfl ?_
      refine zg_0_1 F t0 wF_X0_46 dX0_faultOf_48 ?_
      refine z_if_le F 58 dX0_faultOf_51 rfl (fun hc => ?_) (fun hc => ?_)
      · replace h := zif_t hc h
        refine z_iconst (y := (0 : Int32)) F dX0_faultOf_58 rfl ?_
        cases h
        exact z_reti F hr hk dX0_faultOf_59
      · replace h := zif_f hc h
        refine z_iconst (y := (4 : Int32)) F dX0_faultOf_54 rfl ?_
        refine z_goto F 59 dX0_faultOf_55 rfl ?_
        cases h
        exact z_reti F hr hk dX0_faultOf_59
    · replace h := zif_f hc h
      refine z_iconst (y := (3 : Int32)) F dX0_faultOf_45 rfl ?_
      cases h
      exact z_reti F hr hk dX0_faultOf_46
  · replace h := zif_f hc h
    have hn0 := zsw_ne hc
    by_cases hc : x1 = (1 : Int32)
    · replace h := zif_t hc h
      refine z_swIn F 60 hc dX0_faultOf_1 (by decide) (by decide) rfl rfl ?_
      refine z_aload_n F dX0_faultOf_60 rfl 0 rfl ?_
      refine zg_0_1 F t0 wF_X0_46 dX0_faultOf_61 ?_
      refine z_bipush (y := (16 : Int32)) F dX0_faultOf_64 rfl ?_
      refine z_icmp_lt F 73 dX0_faultOf_66 rfl (fun hc => ?_) (fun hc => ?_)
      · replace h := zif_t hc h
        refine z_iconst (y := (0 : Int32)) F dX0_faultOf_73 rfl ?_
        cases h
        exact z_reti F hr hk dX0_faultOf_74
      · replace h := zif_f hc h
        refine z_iconst (y := (3 : Int32)) F dX0_faultOf_69 rfl ?_
        refine z_goto F 74 dX0_faultOf_70 rfl ?_
        cases h
        exact z_reti F hr hk dX0_faultOf_74
    · replace h := zif_f hc h
      have hn1 := zsw_ne hc
      by_cases hc : x1 = (2 : Int32)
      · replace h := zif_t hc h
        refine z_swIn F 75 hc dX0_faultOf_1 (by decide) (by decide) rfl rfl ?_
        refine z_aload_n F dX0_faultOf_75 rfl 0 rfl ?_
        refine zg_0_3 F t0 wF_X0_49 dX0_faultOf_76 ?_
        refine z_aload_n F dX0_faultOf_79 rfl 0 rfl ?_
        refine zg_0_2 F t0 wF_X0_9 dX0_faultOf_80 ?_
        refine z_icmp_lt F 90 dX0_faultOf_83 rfl (fun hc => ?_) (fun hc => ?_)
        · replace h := zif_t hc h
          refine z_iconst (y := (0 : Int32)) F dX0_faultOf_90 rfl ?_
          cases h
          exact z_reti F hr hk dX0_faultOf_91
        · replace h := zif_f hc h
          refine z_iconst (y := (3 : Int32)) F dX0_faultOf_86 rfl ?_
          refine z_goto F 91 dX0_faultOf_87 rfl ?_
          cases h
          exact z_reti F hr hk dX0_faultOf_91
      · replace h := zif_f hc h
        have hn2 := zsw_ne hc
        by_cases hc : x1 = (3 : Int32)
        · replace h := zif_t hc h
          refine z_swIn F 92 hc dX0_faultOf_1 (by decide) (by decide) rfl rfl ?_
          refine z_aload_n F dX0_faultOf_92 rfl 0 rfl ?_
          refine zg_0_3 F t0 wF_X0_49 dX0_faultOf_93 ?_
          refine z_if_gt F 106 dX0_faultOf_96 rfl (fun hc => ?_) (fun hc => ?_)
          · replace h := zif_t hc h
            refine z_iconst (y := (4 : Int32)) F dX0_faultOf_106 rfl ?_
            refine z_goto F 111 dX0_faultOf_107 rfl ?_
            cases h
            exact z_reti F hr hk dX0_faultOf_111
          · replace h := zif_f hc h
            refine z_aload_n F dX0_faultOf_99 rfl 0 rfl ?_
            refine zg_0_6 F t0 wF_X0_64 dX0_faultOf_100 ?_
            refine z_if_eq F 110 dX0_faultOf_103 rfl (fun hc => ?_) (fun hc => ?_)
            · replace h := zif_t hc h
              refine z_iconst (y := (0 : Int32)) F dX0_faultOf_110 rfl ?_
              cases h
              exact z_reti F hr hk dX0_faultOf_111
            · replace h := zif_f hc h
              refine z_iconst (y := (4 : Int32)) F dX0_faultOf_106 rfl ?_
              refine z_goto F 111 dX0_faultOf_107 rfl ?_
              cases h
              exact z_reti F hr hk dX0_faultOf_111
        · replace h := zif_f hc h
          have hn3 := zsw_ne hc
          by_cases hc : x1 = (4 : Int32)
          · replace h := zif_t hc h
            refine z_swIn F 112 hc dX0_faultOf_1 (by decide) (by decide) rfl rfl ?_
            refine z_aload_n F dX0_faultOf_112 rfl 0 rfl ?_
            refine zg_0_4 F t0 wF_X0_52 dX0_faultOf_113 ?_
            refine z_bipush (y := (12 : Int32)) F dX0_faultOf_116 rfl ?_
            refine z_icmp_lt F 125 dX0_faultOf_118 rfl (fun hc => ?_) (fun hc => ?_)
            · replace h := zif_t hc h
              refine z_iconst (y := (0 : Int32)) F dX0_faultOf_125 rfl ?_
              cases h
              exact z_reti F hr hk dX0_faultOf_126
            · replace h := zif_f hc h
              refine z_iconst (y := (3 : Int32)) F dX0_faultOf_121 rfl ?_
              refine z_goto F 126 dX0_faultOf_122 rfl ?_
              cases h
              exact z_reti F hr hk dX0_faultOf_126
          · replace h := zif_f hc h
            have hn4 := zsw_ne hc
            refine z_tableOut F 127 dX0_faultOf_1 (by have q0 : ((0 : Int32) : Int32).toInt = 0 := rfl; have q1 : ((1 : Int32) : Int32).toInt = 1 := rfl; have q2 : ((2 : Int32) : Int32).toInt = 2 := rfl; have q3 : ((3 : Int32) : Int32).toInt = 3 := rfl; have q4 : ((4 : Int32) : Int32).toInt = 4 := rfl; omega) rfl ?_
            refine z_aload_n F dX0_faultOf_127 rfl 0 rfl ?_
            refine zg_0_5 F t0 wF_X0_55 dX0_faultOf_128 ?_
            refine z_bipush (y := (12 : Int32)) F dX0_faultOf_131 rfl ?_
            refine z_icmp_lt F 140 dX0_faultOf_133 rfl (fun hc => ?_) (fun hc => ?_)
            · replace h := zif_t hc h
              refine z_iconst (y := (0 : Int32)) F dX0_faultOf_140 rfl ?_
              cases h
              exact z_reti F hr hk dX0_faultOf_141
            · replace h := zif_f hc h
              refine z_iconst (y := (3 : Int32)) F dX0_faultOf_136 rfl ?_
              refine z_goto F 141 dX0_faultOf_137 rfl ?_
              cases h
              exact z_reti F hr hk dX0_faultOf_141

theorem dX0_readQuestion_0 : decode cX0_readQuestion 0 = .ok (.aload_n 0, 1) := by decide +kernel
theorem dX0_readQuestion_1 : decode cX0_readQuestion 1 = .ok (.getfield 15, 3) := by decide +kernel
theorem dX0_readQuestion_4 : decode cX0_readQuestion 4 = .ok (.aload_n 0, 1) := by decide +kernel
theorem dX0_readQuestion_5 : decode cX0_readQuestion 5 = .ok (.getfield 43, 3) := by decide +kernel
theorem dX0_readQuestion_8 : decode cX0_readQuestion 8 = .ok (.aload_n 1, 1) := by decide +kernel
theorem dX0_readQuestion_9 : decode cX0_readQuestion 9 = .ok (.iconst 2, 1) := by decide +kernel
theorem dX0_readQuestion_10 : decode cX0_readQuestion 10 = .ok (.iconst 3, 1) := by decide +kernel
theorem dX0_readQuestion_11 : decode cX0_readQuestion 11 = .ok (.invokevirtual 131, 3) := by decide +kernel
theorem dX0_readQuestion_14 : decode cX0_readQuestion 14 = .ok (.invokestatic 135, 3) := by decide +kernel
theorem dX0_readQuestion_17 : decode cX0_readQuestion 17 = .ok (.aload_n 0, 1) := by decide +kernel
theorem dX0_readQuestion_18 : decode cX0_readQuestion 18 = .ok (.dup, 1) := by decide +kernel
theorem dX0_readQuestion_19 : decode cX0_readQuestion 19 = .ok (.getfield 43, 3) := by decide +kernel
theorem dX0_readQuestion_22 : decode cX0_readQuestion 22 = .ok (.iconst 1, 1) := by decide +kernel
theorem dX0_readQuestion_23 : decode cX0_readQuestion 23 = .ok (.iadd, 1) := by decide +kernel
theorem dX0_readQuestion_24 : decode cX0_readQuestion 24 = .ok (.putfield 43, 3) := by decide +kernel
theorem dX0_readQuestion_27 : decode cX0_readQuestion 27 = .ok (.return_, 1) := by decide +kernel
def fX0_readQuestion (x0 : Nat) (x1 : Nat) (v : zV) : Option zV :=
  zbind (fX8_number x1 (2 : Int32) (3 : Int32) v) fun r_2 v_1 =>
  zbindv (fX9_set (zrf x0 7) (v x0 0) r_2 v_1) fun v_3 =>
  zlet (zup v_3 x0 0 ((v_3 x0 0) + (1 : Int32))) fun v_4 =>
  some v_4
set_option maxRecDepth 4000 in
theorem kX0_readQuestion (l : Launch) (G : zG) (x0 : Nat) (t0 : zty G x0 1 0) (x1 : Nat) (t1 : zty G x1 1 8) (v : zV) (w : zV) (h : fX0_readQuestion x0 x1 v = some w) : zMet l yX0_readQuestion cX0_readQuestion 2 (Option.none : Option FieldType) 4 147 0 0 [zr G x0, zr G x1] G v none w := by
  refine zM_of (own := RX0) (by decide) rfl (Nat.le_of_ble_eq_true rfl) (fun x hl F hr hk hcs => ?_)
  subst hl
  refine z_ls [(0, zr G x0), (1, zr G x1)] [0, 1] rfl ?_
  unfold fX0_readQuestion at h
  refine z_aload_n F dX0_readQuestion_0 rfl 0 rfl ?_
  refine zg_0_7 F t0 wF_X0_15 dX0_readQuestion_1 ?_
  refine z_aload_n F dX0_readQuestion_4 rfl 0 rfl ?_
  refine zg_0_0 F t0 wF_X0_43 dX0_readQuestion_5 ?_
  refine z_aload_n F dX0_readQuestion_8 rfl 1 rfl ?_
  refine z_iconst (y := (2 : Int32)) F dX0_readQuestion_9 rfl ?_
  refine z_iconst (y := (3 : Int32)) F dX0_readQuestion_10 rfl ?_
  obtain ⟨r_2, v_1, hq11, h⟩ := zbind_ex h
  refine z_callVi F [.int (2 : Int32), .int (3 : Int32)] [.int (v x0 0), zr G (zrf x0 7)] (kX8_number x.2.1 G x1 t1 (2 : Int32) (3 : Int32) v r_2 v_1 hq11) mI_X8_number (c := 8) rfl t1 wM_X0_131 mi_X8_number sl_X8_number dX0_readQuestion_11 rfl ⟨Nat.le_of_ble_eq_true rfl, Nat.le_of_ble_eq_true rfl⟩ rfl (Nat.le_of_ble_eq_true rfl) ⟨Nat.zero_le _, Nat.zero_le _⟩ ?_
  obtain ⟨v_3, hq14, h⟩ := zbindv_ex h
  refine z_callSNv F [zr G (zrf x0 7), .int (v x0 0), .int r_2] [] (kX9_set x.2.1 G (zrf x0 7) (zt_f tc_0_7 t0) (v x0 0) r_2 v_1 v_3 hq14) mI_X9_set wN_X0_135 ms_X9_set dX0_readQuestion_14 rfl ⟨Nat.le_of_ble_eq_true rfl, Nat.le_of_ble_eq_true rfl⟩ rfl (Nat.le_of_ble_eq_true rfl) ⟨Nat.zero_le _, Nat.zero_le _⟩ ?_
  refine z_aload_n F dX0_readQuestion_17 rfl 0 rfl ?_
  refine z_dup F dX0_readQuestion_18 rfl ?_
  refine zg_0_0 F t0 wF_X0_43 dX0_readQuestion_19 ?_
  refine z_iconst (y := (1 : Int32)) F dX0_readQuestion_22 rfl ?_
  refine z_iadd F dX0_readQuestion_23 ?_
  refine zp_0_0 F t0 wF_X0_43 dX0_readQuestion_24 ?_
  obtain ⟨v_4, ev_4, h⟩ := zlet_ex h
  refine z_heap ev_4 ?_
  cases h
  exact z_retv F hr hk dX0_readQuestion_27

theorem dX0_readMan_0 : decode cX0_readMan 0 = .ok (.aload_n 0, 1) := by decide +kernel
theorem dX0_readMan_1 : decode cX0_readMan 1 = .ok (.getfield 19, 3) := by decide +kernel
theorem dX0_readMan_4 : decode cX0_readMan 4 = .ok (.aload_n 0, 1) := by decide +kernel
theorem dX0_readMan_5 : decode cX0_readMan 5 = .ok (.getfield 46, 3) := by decide +kernel
theorem dX0_readMan_8 : decode cX0_readMan 8 = .ok (.aload_n 1, 1) := by decide +kernel
theorem dX0_readMan_9 : decode cX0_readMan 9 = .ok (.iconst 0, 1) := by decide +kernel
theorem dX0_readMan_10 : decode cX0_readMan 10 = .ok (.bipush 99, 2) := by decide +kernel
theorem dX0_readMan_12 : decode cX0_readMan 12 = .ok (.invokevirtual 131, 3) := by decide +kernel
theorem dX0_readMan_15 : decode cX0_readMan 15 = .ok (.invokestatic 135, 3) := by decide +kernel
theorem dX0_readMan_18 : decode cX0_readMan 18 = .ok (.iconst 0, 1) := by decide +kernel
theorem dX0_readMan_19 : decode cX0_readMan 19 = .ok (.istore_n 2, 1) := by decide +kernel
theorem dX0_readMan_20 : decode cX0_readMan 20 = .ok (.iconst 0, 1) := by decide +kernel
theorem dX0_readMan_21 : decode cX0_readMan 21 = .ok (.istore_n 3, 1) := by decide +kernel
theorem dX0_readMan_22 : decode cX0_readMan 22 = .ok (.iload_n 3, 1) := by decide +kernel
theorem dX0_readMan_23 : decode cX0_readMan 23 = .ok (.aload_n 0, 1) := by decide +kernel
theorem dX0_readMan_24 : decode cX0_readMan 24 = .ok (.getfield 43, 3) := by decide +kernel
theorem dX0_readMan_27 : decode cX0_readMan 27 = .ok (.if_icmp .ge 31, 3) := by decide +kernel
theorem dX0_readMan_30 : decode cX0_readMan 30 = .ok (.iload_n 2, 1) := by decide +kernel
theorem dX0_readMan_31 : decode cX0_readMan 31 = .ok (.aload_n 1, 1) := by decide +kernel
theorem dX0_readMan_32 : decode cX0_readMan 32 = .ok (.iconst 0, 1) := by decide +kernel
theorem dX0_readMan_33 : decode cX0_readMan 33 = .ok (.aload_n 0, 1) := by decide +kernel
theorem dX0_readMan_34 : decode cX0_readMan 34 = .ok (.getfield 15, 3) := by decide +kernel
theorem dX0_readMan_37 : decode cX0_readMan 37 = .ok (.iload_n 3, 1) := by decide +kernel
theorem dX0_readMan_38 : decode cX0_readMan 38 = .ok (.invokestatic 139, 3) := by decide +kernel
theorem dX0_readMan_41 : decode cX0_readMan 41 = .ok (.iconst 1, 1) := by decide +kernel
theorem dX0_readMan_42 : decode cX0_readMan 42 = .ok (.isub, 1) := by decide +kernel
theorem dX0_readMan_43 : decode cX0_readMan 43 = .ok (.invokevirtual 131, 3) := by decide +kernel
theorem dX0_readMan_46 : decode cX0_readMan 46 = .ok (.iconst 2, 1) := by decide +kernel
theorem dX0_readMan_47 : decode cX0_readMan 47 = .ok (.iload_n 3, 1) := by decide +kernel
theorem dX0_readMan_48 : decode cX0_readMan 48 = .ok (.imul, 1) := by decide +kernel
theorem dX0_readMan_49 : decode cX0_readMan 49 = .ok (.ishl, 1) := by decide +kernel
theorem dX0_readMan_50 : decode cX0_readMan 50 = .ok (.ior, 1) := by decide +kernel
theorem dX0_readMan_51 : decode cX0_readMan 51 = .ok (.istore_n 2, 1) := by decide +kernel
theorem dX0_readMan_52 : decode cX0_readMan 52 = .ok (.iinc 3 1, 3) := by decide +kernel
theorem dX0_readMan_55 : decode cX0_readMan 55 = .ok (.goto (-33), 3) := by decide +kernel
theorem dX0_readMan_58 : decode cX0_readMan 58 = .ok (.aload_n 0, 1) := by decide +kernel
theorem dX0_readMan_59 : decode cX0_readMan 59 = .ok (.getfield 22, 3) := by decide +kernel
theorem dX0_readMan_62 : decode cX0_readMan 62 = .ok (.aload_n 0, 1) := by decide +kernel
theorem dX0_readMan_63 : decode cX0_readMan 63 = .ok (.getfield 46, 3) := by decide +kernel
theorem dX0_readMan_66 : decode cX0_readMan 66 = .ok (.iload_n 2, 1) := by decide +kernel
theorem dX0_readMan_67 : decode cX0_readMan 67 = .ok (.invokestatic 135, 3) := by decide +kernel
theorem dX0_readMan_70 : decode cX0_readMan 70 = .ok (.aload_n 0, 1) := by decide +kernel
theorem dX0_readMan_71 : decode cX0_readMan 71 = .ok (.dup, 1) := by decide +kernel
theorem dX0_readMan_72 : decode cX0_readMan 72 = .ok (.getfield 46, 3) := by decide +kernel
theorem dX0_readMan_75 : decode cX0_readMan 75 = .ok (.iconst 1, 1) := by decide +kernel
theorem dX0_readMan_76 : decode cX0_readMan 76 = .ok (.iadd, 1) := by decide +kernel
theorem dX0_readMan_77 : decode cX0_readMan 77 = .ok (.putfield 46, 3) := by decide +kernel
theorem dX0_readMan_80 : decode cX0_readMan 80 = .ok (.return_, 1) := by decide +kernel
def fX0_readMan_58  (x0 : Nat) (x2 : Int32) (v : zV) : Option zV :=
  zbindv (fX9_set (zrf x0 9) (v x0 1) x2 v) fun v_1 =>
  zlet (zup v_1 x0 1 ((v_1 x0 1) + (1 : Int32))) fun v_2 =>
  some v_2
set_option maxRecDepth 4000 in
theorem jX0_readMan_58 (x : zCx) (G : zG) (F : zF x G cX0_readMan 4 RX0 4 147) (hr : x.2.2.2.2.2.2.2.2.1.sig.returnType = (Option.none : Option FieldType)) (hk : x.2.2.2.2.2.2.2.2.1.locks = false) (w : zV)  : ∀ (x0 : Nat) (t0 : zty G x0 1 0) (x2 : Int32) (v : zV), fX0_readMan_58 x0 x2 v = some w → zJ x G 4 (zQ x G none w 0 0) 0 0 58 [(0, zr G x0), (2, .int x2)] [] v := by
  intro x0 t0 x2 v h
  unfold fX0_readMan_58 at h
  refine z_aload_n F dX0_readMan_58 rfl 0 rfl ?_
  refine zg_0_9 F t0 wF_X0_22 dX0_readMan_59 ?_
  refine z_aload_n F dX0_readMan_62 rfl 0 rfl ?_
  refine zg_0_1 F t0 wF_X0_46 dX0_readMan_63 ?_
  refine z_iload_n F dX0_readMan_66 rfl 1 rfl ?_
  obtain ⟨v_1, hq67, h⟩ := zbindv_ex h
  refine z_callSNv F [zr G (zrf x0 9), .int (v x0 1), .int x2] [] (kX9_set x.2.1 G (zrf x0 9) (zt_f tc_0_9 t0) (v x0 1) x2 v v_1 hq67) mI_X9_set wN_X0_135 ms_X9_set dX0_readMan_67 rfl ⟨Nat.le_of_ble_eq_true rfl, Nat.le_of_ble_eq_true rfl⟩ rfl (Nat.le_of_ble_eq_true rfl) ⟨Nat.zero_le _, Nat.zero_le _⟩ ?_
  refine z_aload_n F dX0_readMan_70 rfl 0 rfl ?_
  refine z_dup F dX0_readMan_71 rfl ?_
  refine zg_0_1 F t0 wF_X0_46 dX0_readMan_72 ?_
  refine z_iconst (y := (1 : Int32)) F dX0_readMan_75 rfl ?_
  refine z_iadd F dX0_readMan_76 ?_
  refine zp_0_1 F t0 wF_X0_46 dX0_readMan_77 ?_
  obtain ⟨v_2, ev_2, h⟩ := zlet_ex h
  refine z_heap ev_2 ?_
  cases h
  exact z_retv F hr hk dX0_readMan_80

def fX0_readMan_22  : Nat → Nat → Nat → Int32 → Int32 → zV → Option zV
  | 0 => fun _ _ _ _ _ => none
  | n + 1 => fun x0 x1 x2 x3 v =>
    if (v x0 0) ≤ x3 then
      fX0_readMan_58  x0 x2 v
    else
      zbind (fX9_get (zrf x0 7) x3 v) fun r_2 v_1 =>
      zbind (fX8_number x1 (0 : Int32) (r_2 - (1 : Int32)) v_1) fun r_4 v_3 =>
      (fX0_readMan_22 n) x0 x1 (x2 ||| (r_4 <<< (((2 : Int32) * x3) &&& 31))) (x3 + (1 : Int32)) v_3
set_option maxRecDepth 4000 in
theorem jX0_readMan_22 (x : zCx) (G : zG) (F : zF x G cX0_readMan 4 RX0 4 147) (hr : x.2.2.2.2.2.2.2.2.1.sig.returnType = (Option.none : Option FieldType)) (hk : x.2.2.2.2.2.2.2.2.1.locks = false) (w : zV)  : ∀ (n : Nat) (x0 : Nat) (t0 : zty G x0 1 0) (x1 : Nat) (t1 : zty G x1 1 8) (x2 : Int32) (x3 : Int32) (v : zV), fX0_readMan_22 n x0 x1 x2 x3 v = some w → zJ x G 4 (zQ x G none w 0 0) 0 0 22 [(0, zr G x0), (1, zr G x1), (2, .int x2), (3, .int x3)] [] v := by
  intro n
  induction n with
  | zero => intro x0 t0 x1 t1 x2 x3 v h; exact absurd h (by intro q; cases q)
  | succ n ih =>
    intro x0 t0 x1 t1 x2 x3 v h
    rw [fX0_readMan_22] at h
    dsimp only at h
    refine z_iload_n F dX0_readMan_22 rfl 3 rfl ?_
    refine z_aload_n F dX0_readMan_23 rfl 0 rfl ?_
    refine zg_0_0 F t0 wF_X0_43 dX0_readMan_24 ?_
    refine z_icmp_ge F 58 dX0_readMan_27 rfl (fun hc => ?_) (fun hc => ?_)
    · replace h := zif_t hc h
      refine z_ls [(0, zr G x0), (2, .int x2)] [0, 2] rfl ?_
      exact jX0_readMan_58 x G F hr hk w   x0 t0 x2 v h
    · replace h := zif_f hc h
      refine z_iload_n F dX0_readMan_30 rfl 2 rfl ?_
      refine z_aload_n F dX0_readMan_31 rfl 1 rfl ?_
      refine z_iconst (y := (0 : Int32)) F dX0_readMan_32 rfl ?_
      refine z_aload_n F dX0_readMan_33 rfl 0 rfl ?_
      refine zg_0_7 F t0 wF_X0_15 dX0_readMan_34 ?_
      refine z_iload_n F dX0_readMan_37 rfl 3 rfl ?_
      obtain ⟨r_2, v_1, hq38, h⟩ := zbind_ex h
      refine z_callSNi F [zr G (zrf x0 7), .int x3] [.int (0 : Int32), zr G x1, .int x2] (kX9_get x.2.1 G (zrf x0 7) (zt_f tc_0_7 t0) x3 v r_2 v_1 hq38) mI_X9_get wN_X0_139 ms_X9_get dX0_readMan_38 rfl ⟨Nat.le_of_ble_eq_true rfl, Nat.le_of_ble_eq_true rfl⟩ rfl (Nat.le_of_ble_eq_true rfl) ⟨Nat.zero_le _, Nat.zero_le _⟩ ?_
      refine z_iconst (y := (1 : Int32)) F dX0_readMan_41 rfl ?_
      refine z_isub F dX0_readMan_42 ?_
      obtain ⟨r_4, v_3, hq43, h⟩ := zbind_ex h
      refine z_callVi F [.int (0 : Int32), .int (r_2 - (1 : Int32))] [.int x2] (kX8_number x.2.1 G x1 t1 (0 : Int32) (r_2 - (1 : Int32)) v_1 r_4 v_3 hq43) mI_X8_number (c := 8) rfl t1 wM_X0_131 mi_X8_number sl_X8_number dX0_readMan_43 rfl ⟨Nat.le_of_ble_eq_true rfl, Nat.le_of_ble_eq_true rfl⟩ rfl (Nat.le_of_ble_eq_true rfl) ⟨Nat.zero_le _, Nat.zero_le _⟩ ?_
      refine z_iconst (y := (2 : Int32)) F dX0_readMan_46 rfl ?_
      refine z_iload_n F dX0_readMan_47 rfl 3 rfl ?_
      refine z_imul F dX0_readMan_48 ?_
      refine z_ishl F dX0_readMan_49 ?_
      refine z_ior F dX0_readMan_50 ?_
      refine z_istore_n F [(2, .int (x2 ||| (r_4 <<< (((2 : Int32) * x3) &&& 31)))), (0, zr G x0), (1, zr G x1), (3, .int x3)] dX0_readMan_51 rfl (Nat.le_of_ble_eq_true rfl) rfl ?_
      refine z_iinc F [(3, .int (x3 + (1 : Int32))), (2, .int (x2 ||| (r_4 <<< (((2 : Int32) * x3) &&& 31)))), (0, zr G x0), (1, zr G x1)] dX0_readMan_52 3 rfl rfl (Nat.le_of_ble_eq_true rfl) rfl ?_
      refine z_goto F 22 dX0_readMan_55 rfl ?_
      refine z_ls [(0, zr G x0), (1, zr G x1), (2, .int (x2 ||| (r_4 <<< (((2 : Int32) * x3) &&& 31)))), (3, .int (x3 + (1 : Int32)))] [2, 3, 1, 0] rfl ?_
      exact ih x0 t0 x1 t1 (x2 ||| (r_4 <<< (((2 : Int32) * x3) &&& 31))) (x3 + (1 : Int32)) v_3 h

def fX0_readMan (x0 : Nat) (x1 : Nat) (v : zV) : Option zV :=
  zbind (fX8_number x1 (0 : Int32) (99 : Int32) v) fun r_2 v_1 =>
  zbindv (fX9_set (zrf x0 8) (v x0 1) r_2 v_1) fun v_3 =>
  fX0_readMan_22  zFU x0 x1 (0 : Int32) (0 : Int32) v_3
set_option maxRecDepth 4000 in
theorem kX0_readMan (l : Launch) (G : zG) (x0 : Nat) (t0 : zty G x0 1 0) (x1 : Nat) (t1 : zty G x1 1 8) (v : zV) (w : zV) (h : fX0_readMan x0 x1 v = some w) : zMet l yX0_readMan cX0_readMan 4 (Option.none : Option FieldType) 4 147 0 0 [zr G x0, zr G x1] G v none w := by
  refine zM_of (own := RX0) (by decide) rfl (Nat.le_of_ble_eq_true rfl) (fun x hl F hr hk hcs => ?_)
  subst hl
  refine z_ls [(0, zr G x0), (1, zr G x1)] [0, 1] rfl ?_
  unfold fX0_readMan at h
  refine z_aload_n F dX0_readMan_0 rfl 0 rfl ?_
  refine zg_0_8 F t0 wF_X0_19 dX0_readMan_1 ?_
  refine z_aload_n F dX0_readMan_4 rfl 0 rfl ?_
  refine zg_0_1 F t0 wF_X0_46 dX0_readMan_5 ?_
  refine z_aload_n F dX0_readMan_8 rfl 1 rfl ?_
  refine z_iconst (y := (0 : Int32)) F dX0_readMan_9 rfl ?_
  refine z_bipush (y := (99 : Int32)) F dX0_readMan_10 rfl ?_
  obtain ⟨r_2, v_1, hq12, h⟩ := zbind_ex h
  refine z_callVi F [.int (0 : Int32), .int (99 : Int32)] [.int (v x0 1), zr G (zrf x0 8)] (kX8_number x.2.1 G x1 t1 (0 : Int32) (99 : Int32) v r_2 v_1 hq12) mI_X8_number (c := 8) rfl t1 wM_X0_131 mi_X8_number sl_X8_number dX0_readMan_12 rfl ⟨Nat.le_of_ble_eq_true rfl, Nat.le_of_ble_eq_true rfl⟩ rfl (Nat.le_of_ble_eq_true rfl) ⟨Nat.zero_le _, Nat.zero_le _⟩ ?_
  obtain ⟨v_3, hq15, h⟩ := zbindv_ex h
  refine z_callSNv F [zr G (zrf x0 8), .int (v x0 1), .int r_2] [] (kX9_set x.2.1 G (zrf x0 8) (zt_f tc_0_8 t0) (v x0 1) r_2 v_1 v_3 hq15) mI_X9_set wN_X0_135 ms_X9_set dX0_readMan_15 rfl ⟨Nat.le_of_ble_eq_true rfl, Nat.le_of_ble_eq_true rfl⟩ rfl (Nat.le_of_ble_eq_true rfl) ⟨Nat.zero_le _, Nat.zero_le _⟩ ?_
  refine z_iconst (y := (0 : Int32)) F dX0_readMan_18 rfl ?_
  refine z_istore_n F [(2, .int (0 : Int32)), (0, zr G x0), (1, zr G x1)] dX0_readMan_19 rfl (Nat.le_of_ble_eq_true rfl) rfl ?_
  refine z_iconst (y := (0 : Int32)) F dX0_readMan_20 rfl ?_
  refine z_istore_n F [(3, .int (0 : Int32)), (2, .int (0 : Int32)), (0, zr G x0), (1, zr G x1)] dX0_readMan_21 rfl (Nat.le_of_ble_eq_true rfl) rfl ?_
  refine z_ls [(0, zr G x0), (1, zr G x1), (2, .int (0 : Int32)), (3, .int (0 : Int32))] [2, 3, 1, 0] rfl ?_
  exact jX0_readMan_22 x G F hr hk w   zFU x0 t0 x1 t1 (0 : Int32) (0 : Int32) v_3 h

theorem dX0_readKnownMan_0 : decode cX0_readKnownMan 0 = .ok (.aload_n 1, 1) := by decide +kernel
theorem dX0_readKnownMan_1 : decode cX0_readKnownMan 1 = .ok (.iconst 0, 1) := by decide +kernel
theorem dX0_readKnownMan_2 : decode cX0_readKnownMan 2 = .ok (.aload_n 0, 1) := by decide +kernel
theorem dX0_readKnownMan_3 : decode cX0_readKnownMan 3 = .ok (.getfield 46, 3) := by decide +kernel
theorem dX0_readKnownMan_6 : decode cX0_readKnownMan 6 = .ok (.iconst 1, 1) := by decide +kernel
theorem dX0_readKnownMan_7 : decode cX0_readKnownMan 7 = .ok (.isub, 1) := by decide +kernel
theorem dX0_readKnownMan_8 : decode cX0_readKnownMan 8 = .ok (.invokevirtual 131, 3) := by decide +kernel
theorem dX0_readKnownMan_11 : decode cX0_readKnownMan 11 = .ok (.ireturn, 1) := by decide +kernel
def fX0_readKnownMan (x0 : Nat) (x1 : Nat) (v : zV) : Option (Int32 × zV) :=
  zbind (fX8_number x1 (0 : Int32) ((v x0 1) - (1 : Int32)) v) fun r_2 v_1 =>
  some (r_2, v_1)
set_option maxRecDepth 4000 in
theorem kX0_readKnownMan (l : Launch) (G : zG) (x0 : Nat) (t0 : zty G x0 1 0) (x1 : Nat) (t1 : zty G x1 1 8) (v : zV) (r : Int32) (w : zV) (h : fX0_readKnownMan x0 x1 v = some (r, w)) : zMet l yX0_readKnownMan cX0_readKnownMan 2 (Option.some FieldType.int) 4 147 0 0 [zr G x0, zr G x1] G v (some (.int r)) w := by
  refine zM_of (own := RX0) (by decide) rfl (Nat.le_of_ble_eq_true rfl) (fun x hl F hr hk hcs => ?_)
  subst hl
  refine z_ls [(0, zr G x0), (1, zr G x1)] [0, 1] rfl ?_
  unfold fX0_readKnownMan at h
  refine z_aload_n F dX0_readKnownMan_0 rfl 1 rfl ?_
  refine z_iconst (y := (0 : Int32)) F dX0_readKnownMan_1 rfl ?_
  refine z_aload_n F dX0_readKnownMan_2 rfl 0 rfl ?_
  refine zg_0_1 F t0 wF_X0_46 dX0_readKnownMan_3 ?_
  refine z_iconst (y := (1 : Int32)) F dX0_readKnownMan_6 rfl ?_
  refine z_isub F dX0_readKnownMan_7 ?_
  obtain ⟨r_2, v_1, hq8, h⟩ := zbind_ex h
  refine z_callVi F [.int (0 : Int32), .int ((v x0 1) - (1 : Int32))] [] (kX8_number x.2.1 G x1 t1 (0 : Int32) ((v x0 1) - (1 : Int32)) v r_2 v_1 hq8) mI_X8_number (c := 8) rfl t1 wM_X0_131 mi_X8_number sl_X8_number dX0_readKnownMan_8 rfl ⟨Nat.le_of_ble_eq_true rfl, Nat.le_of_ble_eq_true rfl⟩ rfl (Nat.le_of_ble_eq_true rfl) ⟨Nat.zero_le _, Nat.zero_le _⟩ ?_
  cases h
  exact z_reti F hr hk dX0_readKnownMan_11

theorem dX0_readSeat_0 : decode cX0_readSeat 0 = .ok (.aload_n 1, 1) := by decide +kernel
theorem dX0_readSeat_1 : decode cX0_readSeat 1 = .ok (.invokevirtual 78, 3) := by decide +kernel
theorem dX0_readSeat_4 : decode cX0_readSeat 4 = .ok (.istore_n 2, 1) := by decide +kernel
theorem dX0_readSeat_5 : decode cX0_readSeat 5 = .ok (.aload_n 0, 1) := by decide +kernel
theorem dX0_readSeat_6 : decode cX0_readSeat 6 = .ok (.aload_n 1, 1) := by decide +kernel
theorem dX0_readSeat_7 : decode cX0_readSeat 7 = .ok (.invokevirtual 143, 3) := by decide +kernel
theorem dX0_readSeat_10 : decode cX0_readSeat 10 = .ok (.istore_n 3, 1) := by decide +kernel
theorem dX0_readSeat_11 : decode cX0_readSeat 11 = .ok (.iconst 0, 1) := by decide +kernel
theorem dX0_readSeat_12 : decode cX0_readSeat 12 = .ok (.istore 4, 2) := by decide +kernel
theorem dX0_readSeat_14 : decode cX0_readSeat 14 = .ok (.iload 4, 2) := by decide +kernel
theorem dX0_readSeat_16 : decode cX0_readSeat 16 = .ok (.aload_n 0, 1) := by decide +kernel
theorem dX0_readSeat_17 : decode cX0_readSeat 17 = .ok (.getfield 49, 3) := by decide +kernel
theorem dX0_readSeat_20 : decode cX0_readSeat 20 = .ok (.if_icmp .ge 28, 3) := by decide +kernel
theorem dX0_readSeat_23 : decode cX0_readSeat 23 = .ok (.aload_n 0, 1) := by decide +kernel
theorem dX0_readSeat_24 : decode cX0_readSeat 24 = .ok (.getfield 25, 3) := by decide +kernel
theorem dX0_readSeat_27 : decode cX0_readSeat 27 = .ok (.iload 4, 2) := by decide +kernel
theorem dX0_readSeat_29 : decode cX0_readSeat 29 = .ok (.invokestatic 139, 3) := by decide +kernel
theorem dX0_readSeat_32 : decode cX0_readSeat 32 = .ok (.iload_n 3, 1) := by decide +kernel
theorem dX0_readSeat_33 : decode cX0_readSeat 33 = .ok (.if_icmp .ne 9, 3) := by decide +kernel
theorem dX0_readSeat_36 : decode cX0_readSeat 36 = .ok (.aload_n 1, 1) := by decide +kernel
theorem dX0_readSeat_37 : decode cX0_readSeat 37 = .ok (.iconst 2, 1) := by decide +kernel
theorem dX0_readSeat_38 : decode cX0_readSeat 38 = .ok (.iload_n 2, 1) := by decide +kernel
theorem dX0_readSeat_39 : decode cX0_readSeat 39 = .ok (.invokevirtual 85, 3) := by decide +kernel
theorem dX0_readSeat_42 : decode cX0_readSeat 42 = .ok (.iinc 4 1, 3) := by decide +kernel
theorem dX0_readSeat_45 : decode cX0_readSeat 45 = .ok (.goto (-31), 3) := by decide +kernel
theorem dX0_readSeat_48 : decode cX0_readSeat 48 = .ok (.aload_n 0, 1) := by decide +kernel
theorem dX0_readSeat_49 : decode cX0_readSeat 49 = .ok (.getfield 25, 3) := by decide +kernel
theorem dX0_readSeat_52 : decode cX0_readSeat 52 = .ok (.aload_n 0, 1) := by decide +kernel
theorem dX0_readSeat_53 : decode cX0_readSeat 53 = .ok (.getfield 49, 3) := by decide +kernel
theorem dX0_readSeat_56 : decode cX0_readSeat 56 = .ok (.iload_n 3, 1) := by decide +kernel
theorem dX0_readSeat_57 : decode cX0_readSeat 57 = .ok (.invokestatic 135, 3) := by decide +kernel
theorem dX0_readSeat_60 : decode cX0_readSeat 60 = .ok (.aload_n 0, 1) := by decide +kernel
theorem dX0_readSeat_61 : decode cX0_readSeat 61 = .ok (.dup, 1) := by decide +kernel
theorem dX0_readSeat_62 : decode cX0_readSeat 62 = .ok (.getfield 49, 3) := by decide +kernel
theorem dX0_readSeat_65 : decode cX0_readSeat 65 = .ok (.iconst 1, 1) := by decide +kernel
theorem dX0_readSeat_66 : decode cX0_readSeat 66 = .ok (.iadd, 1) := by decide +kernel
theorem dX0_readSeat_67 : decode cX0_readSeat 67 = .ok (.putfield 49, 3) := by decide +kernel
theorem dX0_readSeat_70 : decode cX0_readSeat 70 = .ok (.return_, 1) := by decide +kernel
def fX0_readSeat_48  (x0 : Nat) (x3 : Int32) (v : zV) : Option zV :=
  zbindv (fX9_set (zrf x0 10) (v x0 3) x3 v) fun v_1 =>
  zlet (zup v_1 x0 3 ((v_1 x0 3) + (1 : Int32))) fun v_2 =>
  some v_2
set_option maxRecDepth 4000 in
theorem jX0_readSeat_48 (x : zCx) (G : zG) (F : zF x G cX0_readSeat 5 RX0 5 168) (hr : x.2.2.2.2.2.2.2.2.1.sig.returnType = (Option.none : Option FieldType)) (hk : x.2.2.2.2.2.2.2.2.1.locks = false) (w : zV)  : ∀ (x0 : Nat) (t0 : zty G x0 1 0) (x3 : Int32) (v : zV), fX0_readSeat_48 x0 x3 v = some w → zJ x G 5 (zQ x G none w 0 0) 0 0 48 [(0, zr G x0), (3, .int x3)] [] v := by
  intro x0 t0 x3 v h
  unfold fX0_readSeat_48 at h
  refine z_aload_n F dX0_readSeat_48 rfl 0 rfl ?_
  refine zg_0_10 F t0 wF_X0_25 dX0_readSeat_49 ?_
  refine z_aload_n F dX0_readSeat_52 rfl 0 rfl ?_
  refine zg_0_3 F t0 wF_X0_49 dX0_readSeat_53 ?_
  refine z_iload_n F dX0_readSeat_56 rfl 1 rfl ?_
  obtain ⟨v_1, hq57, h⟩ := zbindv_ex h
  refine z_callSNv F [zr G (zrf x0 10), .int (v x0 3), .int x3] [] (kX9_set x.2.1 G (zrf x0 10) (zt_f tc_0_10 t0) (v x0 3) x3 v v_1 hq57) mI_X9_set wN_X0_135 ms_X9_set dX0_readSeat_57 rfl ⟨Nat.le_of_ble_eq_true rfl, Nat.le_of_ble_eq_true rfl⟩ rfl (Nat.le_of_ble_eq_true rfl) ⟨Nat.zero_le _, Nat.zero_le _⟩ ?_
  refine z_aload_n F dX0_readSeat_60 rfl 0 rfl ?_
  refine z_dup F dX0_readSeat_61 rfl ?_
  refine zg_0_3 F t0 wF_X0_49 dX0_readSeat_62 ?_
  refine z_iconst (y := (1 : Int32)) F dX0_readSeat_65 rfl ?_
  refine z_iadd F dX0_readSeat_66 ?_
  refine zp_0_3 F t0 wF_X0_49 dX0_readSeat_67 ?_
  obtain ⟨v_2, ev_2, h⟩ := zlet_ex h
  refine z_heap ev_2 ?_
  cases h
  exact z_retv F hr hk dX0_readSeat_70

def fX0_readSeat_14  : Nat → Nat → Nat → Int32 → Int32 → Int32 → zV → Option zV
  | 0 => fun _ _ _ _ _ _ => none
  | n + 1 => fun x0 x1 x2 x3 x4 v =>
    if (v x0 3) ≤ x4 then
      fX0_readSeat_48  x0 x3 v
    else
      zbind (fX9_get (zrf x0 10) x4 v) fun r_2 v_1 =>
      if r_2 = x3 then
        zbindv (fX8_fail x1 (2 : Int32) x2 v_1) fun v_3 =>
        (fX0_readSeat_14 n) x0 x1 x2 x3 (x4 + (1 : Int32)) v_3
      else
        (fX0_readSeat_14 n) x0 x1 x2 x3 (x4 + (1 : Int32)) v_1
set_option maxRecDepth 4000 in
theorem jX0_readSeat_14 (x : zCx) (G : zG) (F : zF x G cX0_readSeat 5 RX0 5 168) (hr : x.2.2.2.2.2.2.2.2.1.sig.returnType = (Option.none : Option FieldType)) (hk : x.2.2.2.2.2.2.2.2.1.locks = false) (w : zV)  : ∀ (n : Nat) (x0 : Nat) (t0 : zty G x0 1 0) (x1 : Nat) (t1 : zty G x1 1 8) (x2 : Int32) (x3 : Int32) (x4 : Int32) (v : zV), fX0_readSeat_14 n x0 x1 x2 x3 x4 v = some w → zJ x G 5 (zQ x G none w 0 0) 0 0 14 [(0, zr G x0), (1, zr G x1), (2, .int x2), (3, .int x3), (4, .int x4)] [] v := by
  intro n
  induction n with
  | zero => intro x0 t0 x1 t1 x2 x3 x4 v h; exact absurd h (by intro q; cases q)
  | succ n ih =>
    intro x0 t0 x1 t1 x2 x3 x4 v h
    rw [fX0_readSeat_14] at h
    dsimp only at h
    refine z_iload F dX0_readSeat_14 4 rfl ?_
    refine z_aload_n F dX0_readSeat_16 rfl 0 rfl ?_
    refine zg_0_3 F t0 wF_X0_49 dX0_readSeat_17 ?_
    refine z_icmp_ge F 48 dX0_readSeat_20 rfl (fun hc => ?_) (fun hc => ?_)
    · replace h := zif_t hc h
      refine z_ls [(0, zr G x0), (3, .int x3)] [0, 3] rfl ?_
      exact jX0_readSeat_48 x G F hr hk w   x0 t0 x3 v h
    · replace h := zif_f hc h
      refine z_aload_n F dX0_readSeat_23 rfl 0 rfl ?_
      refine zg_0_10 F t0 wF_X0_25 dX0_readSeat_24 ?_
      refine z_iload F dX0_readSeat_27 4 rfl ?_
      obtain ⟨r_2, v_1, hq29, h⟩ := zbind_ex h
      refine z_callSNi F [zr G (zrf x0 10), .int x4] [] (kX9_get x.2.1 G (zrf x0 10) (zt_f tc_0_10 t0) x4 v r_2 v_1 hq29) mI_X9_get wN_X0_139 ms_X9_get dX0_readSeat_29 rfl ⟨Nat.le_of_ble_eq_true rfl, Nat.le_of_ble_eq_true rfl⟩ rfl (Nat.le_of_ble_eq_true rfl) ⟨Nat.zero_le _, Nat.zero_le _⟩ ?_
      refine z_iload_n F dX0_readSeat_32 rfl 3 rfl ?_
      refine z_icmp_ne F 42 dX0_readSeat_33 rfl (fun hc => ?_) (fun hc => ?_)
      · replace h := zif_f hc h
        refine z_iinc F [(4, .int (x4 + (1 : Int32))), (0, zr G x0), (1, zr G x1), (2, .int x2), (3, .int x3)] dX0_readSeat_42 4 rfl rfl (Nat.le_of_ble_eq_true rfl) rfl ?_
        refine z_goto F 14 dX0_readSeat_45 rfl ?_
        refine z_ls [(0, zr G x0), (1, zr G x1), (2, .int x2), (3, .int x3), (4, .int (x4 + (1 : Int32)))] [1, 2, 3, 4, 0] rfl ?_
        exact ih x0 t0 x1 t1 x2 x3 (x4 + (1 : Int32)) v_1 h
      · replace h := zif_t hc h
        refine z_aload_n F dX0_readSeat_36 rfl 1 rfl ?_
        refine z_iconst (y := (2 : Int32)) F dX0_readSeat_37 rfl ?_
        refine z_iload_n F dX0_readSeat_38 rfl 2 rfl ?_
        obtain ⟨v_3, hq39, h⟩ := zbindv_ex h
        refine z_callVv F [.int (2 : Int32), .int x2] [] (kX8_fail x.2.1 G x1 t1 (2 : Int32) x2 v_1 v_3 hq39) mI_X8_fail (c := 8) rfl t1 wM_X0_85 mi_X8_fail sl_X8_fail dX0_readSeat_39 rfl ⟨Nat.le_of_ble_eq_true rfl, Nat.le_of_ble_eq_true rfl⟩ rfl (Nat.le_of_ble_eq_true rfl) ⟨Nat.zero_le _, Nat.zero_le _⟩ ?_
        refine z_iinc F [(4, .int (x4 + (1 : Int32))), (0, zr G x0), (1, zr G x1), (2, .int x2), (3, .int x3)] dX0_readSeat_42 4 rfl rfl (Nat.le_of_ble_eq_true rfl) rfl ?_
        refine z_goto F 14 dX0_readSeat_45 rfl ?_
        refine z_ls [(0, zr G x0), (1, zr G x1), (2, .int x2), (3, .int x3), (4, .int (x4 + (1 : Int32)))] [1, 2, 3, 4, 0] rfl ?_
        exact ih x0 t0 x1 t1 x2 x3 (x4 + (1 : Int32)) v_3 h

def fX0_readSeat (x0 : Nat) (x1 : Nat) (v : zV) : Option zV :=
  zbind (fX8_lookAt x1 v) fun r_2 v_1 =>
  zbind (fX0_readKnownMan x0 x1 v_1) fun r_4 v_3 =>
  fX0_readSeat_14  zFU x0 x1 r_2 r_4 (0 : Int32) v_3
set_option maxRecDepth 4000 in
theorem kX0_readSeat (l : Launch) (G : zG) (x0 : Nat) (t0 : zty G x0 1 0) (x1 : Nat) (t1 : zty G x1 1 8) (v : zV) (w : zV) (h : fX0_readSeat x0 x1 v = some w) : zMet l yX0_readSeat cX0_readSeat 5 (Option.none : Option FieldType) 5 168 0 0 [zr G x0, zr G x1] G v none w := by
  refine zM_of (own := RX0) (by decide) rfl (Nat.le_of_ble_eq_true rfl) (fun x hl F hr hk hcs => ?_)
  subst hl
  refine z_ls [(0, zr G x0), (1, zr G x1)] [0, 1] rfl ?_
  unfold fX0_readSeat at h
  refine z_aload_n F dX0_readSeat_0 rfl 1 rfl ?_
  obtain ⟨r_2, v_1, hq1, h⟩ := zbind_ex h
  refine z_callVi F [] [] (kX8_lookAt x.2.1 G x1 t1 v r_2 v_1 hq1) mI_X8_lookAt (c := 8) rfl t1 wM_X0_78 mi_X8_lookAt sl_X8_lookAt dX0_readSeat_1 rfl ⟨Nat.le_of_ble_eq_true rfl, Nat.le_of_ble_eq_true rfl⟩ rfl (Nat.le_of_ble_eq_true rfl) ⟨Nat.zero_le _, Nat.zero_le _⟩ ?_
  refine z_istore_n F [(2, .int r_2), (0, zr G x0), (1, zr G x1)] dX0_readSeat_4 rfl (Nat.le_of_ble_eq_true rfl) rfl ?_
  refine z_aload_n F dX0_readSeat_5 rfl 1 rfl ?_
  refine z_aload_n F dX0_readSeat_6 rfl 2 rfl ?_
  obtain ⟨r_4, v_3, hq7, h⟩ := zbind_ex h
  refine z_callVi F [zr G x1] [] (kX0_readKnownMan x.2.1 G x0 t0 x1 t1 v_1 r_4 v_3 hq7) mI_X0_readKnownMan (c := 0) rfl t0 wM_X0_143 mi_X0_readKnownMan sl_X0_readKnownMan dX0_readSeat_7 rfl ⟨Nat.le_of_ble_eq_true rfl, Nat.le_of_ble_eq_true rfl⟩ rfl (Nat.le_of_ble_eq_true rfl) ⟨Nat.zero_le _, Nat.zero_le _⟩ ?_
  refine z_istore_n F [(3, .int r_4), (2, .int r_2), (0, zr G x0), (1, zr G x1)] dX0_readSeat_10 rfl (Nat.le_of_ble_eq_true rfl) rfl ?_
  refine z_iconst (y := (0 : Int32)) F dX0_readSeat_11 rfl ?_
  refine z_istore (n := 0) F [(4, .int (0 : Int32)), (3, .int r_4), (2, .int r_2), (0, zr G x0), (1, zr G x1)] dX0_readSeat_12 (Nat.le_of_ble_eq_true rfl) rfl ?_
  refine z_ls [(0, zr G x0), (1, zr G x1), (2, .int r_2), (3, .int r_4), (4, .int (0 : Int32))] [3, 4, 2, 1, 0] rfl ?_
  exact jX0_readSeat_14 x G F hr hk w   zFU x0 t0 x1 t1 r_2 r_4 (0 : Int32) v_3 h

theorem dX0_readChairs_0 : decode cX0_readChairs 0 = .ok (.aload_n 0, 1) := by decide +kernel
theorem dX0_readChairs_1 : decode cX0_readChairs 1 = .ok (.aload_n 1, 1) := by decide +kernel
theorem dX0_readChairs_2 : decode cX0_readChairs 2 = .ok (.iconst 2, 1) := by decide +kernel
theorem dX0_readChairs_3 : decode cX0_readChairs 3 = .ok (.bipush 12, 2) := by decide +kernel
theorem dX0_readChairs_5 : decode cX0_readChairs 5 = .ok (.invokevirtual 131, 3) := by decide +kernel
theorem dX0_readChairs_8 : decode cX0_readChairs 8 = .ok (.putfield 9, 3) := by decide +kernel
theorem dX0_readChairs_11 : decode cX0_readChairs 11 = .ok (.aload_n 0, 1) := by decide +kernel
theorem dX0_readChairs_12 : decode cX0_readChairs 12 = .ok (.iconst 1, 1) := by decide +kernel
theorem dX0_readChairs_13 : decode cX0_readChairs 13 = .ok (.putfield 64, 3) := by decide +kernel
theorem dX0_readChairs_16 : decode cX0_readChairs 16 = .ok (.return_, 1) := by decide +kernel
def fX0_readChairs (x0 : Nat) (x1 : Nat) (v : zV) : Option zV :=
  zbind (fX8_number x1 (2 : Int32) (12 : Int32) v) fun r_2 v_1 =>
  zlet (zup v_1 x0 2 r_2) fun v_3 =>
  zlet (zup v_3 x0 6 (1 : Int32)) fun v_4 =>
  some v_4
set_option maxRecDepth 4000 in
theorem kX0_readChairs (l : Launch) (G : zG) (x0 : Nat) (t0 : zty G x0 1 0) (x1 : Nat) (t1 : zty G x1 1 8) (v : zV) (w : zV) (h : fX0_readChairs x0 x1 v = some w) : zMet l yX0_readChairs cX0_readChairs 2 (Option.none : Option FieldType) 4 147 0 0 [zr G x0, zr G x1] G v none w := by
  refine zM_of (own := RX0) (by decide) rfl (Nat.le_of_ble_eq_true rfl) (fun x hl F hr hk hcs => ?_)
  subst hl
  refine z_ls [(0, zr G x0), (1, zr G x1)] [0, 1] rfl ?_
  unfold fX0_readChairs at h
  refine z_aload_n F dX0_readChairs_0 rfl 0 rfl ?_
  refine z_aload_n F dX0_readChairs_1 rfl 1 rfl ?_
  refine z_iconst (y := (2 : Int32)) F dX0_readChairs_2 rfl ?_
  refine z_bipush (y := (12 : Int32)) F dX0_readChairs_3 rfl ?_
  obtain ⟨r_2, v_1, hq5, h⟩ := zbind_ex h
  refine z_callVi F [.int (2 : Int32), .int (12 : Int32)] [zr G x0] (kX8_number x.2.1 G x1 t1 (2 : Int32) (12 : Int32) v r_2 v_1 hq5) mI_X8_number (c := 8) rfl t1 wM_X0_131 mi_X8_number sl_X8_number dX0_readChairs_5 rfl ⟨Nat.le_of_ble_eq_true rfl, Nat.le_of_ble_eq_true rfl⟩ rfl (Nat.le_of_ble_eq_true rfl) ⟨Nat.zero_le _, Nat.zero_le _⟩ ?_
  refine zp_0_2 F t0 wF_X0_9 dX0_readChairs_8 ?_
  obtain ⟨v_3, ev_3, h⟩ := zlet_ex h
  refine z_heap ev_3 ?_
  refine z_aload_n F dX0_readChairs_11 rfl 0 rfl ?_
  refine z_iconst (y := (1 : Int32)) F dX0_readChairs_12 rfl ?_
  refine zp_0_6 F rfl rfl t0 wF_X0_64 dX0_readChairs_13 ?_
  obtain ⟨v_4, ev_4, h⟩ := zlet_ex h
  refine z_heap ev_4 ?_
  cases h
  exact z_retv F hr hk dX0_readChairs_16

theorem dX0_readDeath_0 : decode cX0_readDeath 0 = .ok (.aload_n 0, 1) := by decide +kernel
theorem dX0_readDeath_1 : decode cX0_readDeath 1 = .ok (.getfield 28, 3) := by decide +kernel
theorem dX0_readDeath_4 : decode cX0_readDeath 4 = .ok (.aload_n 0, 1) := by decide +kernel
theorem dX0_readDeath_5 : decode cX0_readDeath 5 = .ok (.getfield 52, 3) := by decide +kernel
theorem dX0_readDeath_8 : decode cX0_readDeath 8 = .ok (.aload_n 1, 1) := by decide +kernel
theorem dX0_readDeath_9 : decode cX0_readDeath 9 = .ok (.iconst 1, 1) := by decide +kernel
theorem dX0_readDeath_10 : decode cX0_readDeath 10 = .ok (.bipush 60, 2) := by decide +kernel
theorem dX0_readDeath_12 : decode cX0_readDeath 12 = .ok (.invokevirtual 131, 3) := by decide +kernel
theorem dX0_readDeath_15 : decode cX0_readDeath 15 = .ok (.invokestatic 135, 3) := by decide +kernel
theorem dX0_readDeath_18 : decode cX0_readDeath 18 = .ok (.aload_n 0, 1) := by decide +kernel
theorem dX0_readDeath_19 : decode cX0_readDeath 19 = .ok (.getfield 31, 3) := by decide +kernel
theorem dX0_readDeath_22 : decode cX0_readDeath 22 = .ok (.aload_n 0, 1) := by decide +kernel
theorem dX0_readDeath_23 : decode cX0_readDeath 23 = .ok (.getfield 52, 3) := by decide +kernel
theorem dX0_readDeath_26 : decode cX0_readDeath 26 = .ok (.aload_n 0, 1) := by decide +kernel
theorem dX0_readDeath_27 : decode cX0_readDeath 27 = .ok (.aload_n 1, 1) := by decide +kernel
theorem dX0_readDeath_28 : decode cX0_readDeath 28 = .ok (.invokevirtual 143, 3) := by decide +kernel
theorem dX0_readDeath_31 : decode cX0_readDeath 31 = .ok (.invokestatic 135, 3) := by decide +kernel
theorem dX0_readDeath_34 : decode cX0_readDeath 34 = .ok (.aload_n 0, 1) := by decide +kernel
theorem dX0_readDeath_35 : decode cX0_readDeath 35 = .ok (.dup, 1) := by decide +kernel
theorem dX0_readDeath_36 : decode cX0_readDeath 36 = .ok (.getfield 52, 3) := by decide +kernel
theorem dX0_readDeath_39 : decode cX0_readDeath 39 = .ok (.iconst 1, 1) := by decide +kernel
theorem dX0_readDeath_40 : decode cX0_readDeath 40 = .ok (.iadd, 1) := by decide +kernel
theorem dX0_readDeath_41 : decode cX0_readDeath 41 = .ok (.putfield 52, 3) := by decide +kernel
theorem dX0_readDeath_44 : decode cX0_readDeath 44 = .ok (.return_, 1) := by decide +kernel
def fX0_readDeath (x0 : Nat) (x1 : Nat) (v : zV) : Option zV :=
  zbind (fX8_number x1 (1 : Int32) (60 : Int32) v) fun r_2 v_1 =>
  zbindv (fX9_set (zrf x0 11) (v x0 4) r_2 v_1) fun v_3 =>
  zbind (fX0_readKnownMan x0 x1 v_3) fun r_5 v_4 =>
  zbindv (fX9_set (zrf x0 12) (v_3 x0 4) r_5 v_4) fun v_6 =>
  zlet (zup v_6 x0 4 ((v_6 x0 4) + (1 : Int32))) fun v_7 =>
  some v_7
set_option maxRecDepth 4000 in
theorem kX0_readDeath (l : Launch) (G : zG) (x0 : Nat) (t0 : zty G x0 1 0) (x1 : Nat) (t1 : zty G x1 1 8) (v : zV) (w : zV) (h : fX0_readDeath x0 x1 v = some w) : zMet l yX0_readDeath cX0_readDeath 2 (Option.none : Option FieldType) 5 168 0 0 [zr G x0, zr G x1] G v none w := by
  refine zM_of (own := RX0) (by decide) rfl (Nat.le_of_ble_eq_true rfl) (fun x hl F hr hk hcs => ?_)
  subst hl
  refine z_ls [(0, zr G x0), (1, zr G x1)] [0, 1] rfl ?_
  unfold fX0_readDeath at h
  refine z_aload_n F dX0_readDeath_0 rfl 0 rfl ?_
  refine zg_0_11 F t0 wF_X0_28 dX0_readDeath_1 ?_
  refine z_aload_n F dX0_readDeath_4 rfl 0 rfl ?_
  refine zg_0_4 F t0 wF_X0_52 dX0_readDeath_5 ?_
  refine z_aload_n F dX0_readDeath_8 rfl 1 rfl ?_
  refine z_iconst (y := (1 : Int32)) F dX0_readDeath_9 rfl ?_
  refine z_bipush (y := (60 : Int32)) F dX0_readDeath_10 rfl ?_
  obtain ⟨r_2, v_1, hq12, h⟩ := zbind_ex h
  refine z_callVi F [.int (1 : Int32), .int (60 : Int32)] [.int (v x0 4), zr G (zrf x0 11)] (kX8_number x.2.1 G x1 t1 (1 : Int32) (60 : Int32) v r_2 v_1 hq12) mI_X8_number (c := 8) rfl t1 wM_X0_131 mi_X8_number sl_X8_number dX0_readDeath_12 rfl ⟨Nat.le_of_ble_eq_true rfl, Nat.le_of_ble_eq_true rfl⟩ rfl (Nat.le_of_ble_eq_true rfl) ⟨Nat.zero_le _, Nat.zero_le _⟩ ?_
  obtain ⟨v_3, hq15, h⟩ := zbindv_ex h
  refine z_callSNv F [zr G (zrf x0 11), .int (v x0 4), .int r_2] [] (kX9_set x.2.1 G (zrf x0 11) (zt_f tc_0_11 t0) (v x0 4) r_2 v_1 v_3 hq15) mI_X9_set wN_X0_135 ms_X9_set dX0_readDeath_15 rfl ⟨Nat.le_of_ble_eq_true rfl, Nat.le_of_ble_eq_true rfl⟩ rfl (Nat.le_of_ble_eq_true rfl) ⟨Nat.zero_le _, Nat.zero_le _⟩ ?_
  refine z_aload_n F dX0_readDeath_18 rfl 0 rfl ?_
  refine zg_0_12 F t0 wF_X0_31 dX0_readDeath_19 ?_
  refine z_aload_n F dX0_readDeath_22 rfl 0 rfl ?_
  refine zg_0_4 F t0 wF_X0_52 dX0_readDeath_23 ?_
  refine z_aload_n F dX0_readDeath_26 rfl 0 rfl ?_
  refine z_aload_n F dX0_readDeath_27 rfl 1 rfl ?_
  obtain ⟨r_5, v_4, hq28, h⟩ := zbind_ex h
  refine z_callVi F [zr G x1] [.int (v_3 x0 4), zr G (zrf x0 12)] (kX0_readKnownMan x.2.1 G x0 t0 x1 t1 v_3 r_5 v_4 hq28) mI_X0_readKnownMan (c := 0) rfl t0 wM_X0_143 mi_X0_readKnownMan sl_X0_readKnownMan dX0_readDeath_28 rfl ⟨Nat.le_of_ble_eq_true rfl, Nat.le_of_ble_eq_true rfl⟩ rfl (Nat.le_of_ble_eq_true rfl) ⟨Nat.zero_le _, Nat.zero_le _⟩ ?_
  obtain ⟨v_6, hq31, h⟩ := zbindv_ex h
  refine z_callSNv F [zr G (zrf x0 12), .int (v_3 x0 4), .int r_5] [] (kX9_set x.2.1 G (zrf x0 12) (zt_f tc_0_12 t0) (v_3 x0 4) r_5 v_4 v_6 hq31) mI_X9_set wN_X0_135 ms_X9_set dX0_readDeath_31 rfl ⟨Nat.le_of_ble_eq_true rfl, Nat.le_of_ble_eq_true rfl⟩ rfl (Nat.le_of_ble_eq_true rfl) ⟨Nat.zero_le _, Nat.zero_le _⟩ ?_
  refine z_aload_n F dX0_readDeath_34 rfl 0 rfl ?_
  refine z_dup F dX0_readDeath_35 rfl ?_
  refine zg_0_4 F t0 wF_X0_52 dX0_readDeath_36 ?_
  refine z_iconst (y := (1 : Int32)) F dX0_readDeath_39 rfl ?_
  refine z_iadd F dX0_readDeath_40 ?_
  refine zp_0_4 F t0 wF_X0_52 dX0_readDeath_41 ?_
  obtain ⟨v_7, ev_7, h⟩ := zlet_ex h
  refine z_heap ev_7 ?_
  cases h
  exact z_retv F hr hk dX0_readDeath_44

theorem dX0_readPraise_0 : decode cX0_readPraise 0 = .ok (.aload_n 0, 1) := by decide +kernel
theorem dX0_readPraise_1 : decode cX0_readPraise 1 = .ok (.getfield 34, 3) := by decide +kernel
theorem dX0_readPraise_4 : decode cX0_readPraise 4 = .ok (.aload_n 0, 1) := by decide +kernel
theorem dX0_readPraise_5 : decode cX0_readPraise 5 = .ok (.getfield 55, 3) := by decide +kernel
theorem dX0_readPraise_8 : decode cX0_readPraise 8 = .ok (.aload_n 1, 1) := by decide +kernel
theorem dX0_readPraise_9 : decode cX0_readPraise 9 = .ok (.iconst 1, 1) := by decide +kernel
theorem dX0_readPraise_10 : decode cX0_readPraise 10 = .ok (.bipush 60, 2) := by decide +kernel
theorem dX0_readPraise_12 : decode cX0_readPraise 12 = .ok (.invokevirtual 131, 3) := by decide +kernel
theorem dX0_readPraise_15 : decode cX0_readPraise 15 = .ok (.invokestatic 135, 3) := by decide +kernel
theorem dX0_readPraise_18 : decode cX0_readPraise 18 = .ok (.aload_n 0, 1) := by decide +kernel
theorem dX0_readPraise_19 : decode cX0_readPraise 19 = .ok (.getfield 37, 3) := by decide +kernel
theorem dX0_readPraise_22 : decode cX0_readPraise 22 = .ok (.aload_n 0, 1) := by decide +kernel
theorem dX0_readPraise_23 : decode cX0_readPraise 23 = .ok (.getfield 55, 3) := by decide +kernel
theorem dX0_readPraise_26 : decode cX0_readPraise 26 = .ok (.aload_n 0, 1) := by decide +kernel
theorem dX0_readPraise_27 : decode cX0_readPraise 27 = .ok (.aload_n 1, 1) := by decide +kernel
theorem dX0_readPraise_28 : decode cX0_readPraise 28 = .ok (.invokevirtual 143, 3) := by decide +kernel
theorem dX0_readPraise_31 : decode cX0_readPraise 31 = .ok (.invokestatic 135, 3) := by decide +kernel
theorem dX0_readPraise_34 : decode cX0_readPraise 34 = .ok (.aload_n 0, 1) := by decide +kernel
theorem dX0_readPraise_35 : decode cX0_readPraise 35 = .ok (.getfield 40, 3) := by decide +kernel
theorem dX0_readPraise_38 : decode cX0_readPraise 38 = .ok (.aload_n 0, 1) := by decide +kernel
theorem dX0_readPraise_39 : decode cX0_readPraise 39 = .ok (.getfield 55, 3) := by decide +kernel
theorem dX0_readPraise_42 : decode cX0_readPraise 42 = .ok (.aload_n 1, 1) := by decide +kernel
theorem dX0_readPraise_43 : decode cX0_readPraise 43 = .ok (.iconst 1, 1) := by decide +kernel
theorem dX0_readPraise_44 : decode cX0_readPraise 44 = .ok (.bipush 99, 2) := by decide +kernel
theorem dX0_readPraise_46 : decode cX0_readPraise 46 = .ok (.invokevirtual 131, 3) := by decide +kernel
theorem dX0_readPraise_49 : decode cX0_readPraise 49 = .ok (.invokestatic 135, 3) := by decide +kernel
theorem dX0_readPraise_52 : decode cX0_readPraise 52 = .ok (.aload_n 0, 1) := by decide +kernel
theorem dX0_readPraise_53 : decode cX0_readPraise 53 = .ok (.dup, 1) := by decide +kernel
theorem dX0_readPraise_54 : decode cX0_readPraise 54 = .ok (.getfield 55, 3) := by decide +kernel
theorem dX0_readPraise_57 : decode cX0_readPraise 57 = .ok (.iconst 1, 1) := by decide +kernel
theorem dX0_readPraise_58 : decode cX0_readPraise 58 = .ok (.iadd, 1) := by decide +kernel
theorem dX0_readPraise_59 : decode cX0_readPraise 59 = .ok (.putfield 55, 3) := by decide +kernel
theorem dX0_readPraise_62 : decode cX0_readPraise 62 = .ok (.return_, 1) := by decide +kernel
def fX0_readPraise (x0 : Nat) (x1 : Nat) (v : zV) : Option zV :=
  zbind (fX8_number x1 (1 : Int32) (60 : Int32) v) fun r_2 v_1 =>
  zbindv (fX9_set (zrf x0 13) (v x0 5) r_2 v_1) fun v_3 =>
  zbind (fX0_readKnownMan x0 x1 v_3) fun r_5 v_4 =>
  zbindv (fX9_set (zrf x0 14) (v_3 x0 5) r_5 v_4) fun v_6 =>
  zbind (fX8_number x1 (1 : Int32) (99 : Int32) v_6) fun r_8 v_7 =>
  zbindv (fX9_set (zrf x0 15) (v_6 x0 5) r_8 v_7) fun v_9 =>
  zlet (zup v_9 x0 5 ((v_9 x0 5) + (1 : Int32))) fun v_10 =>
  some v_10
set_option maxRecDepth 4000 in
theorem kX0_readPraise (l : Launch) (G : zG) (x0 : Nat) (t0 : zty G x0 1 0) (x1 : Nat) (t1 : zty G x1 1 8) (v : zV) (w : zV) (h : fX0_readPraise x0 x1 v = some w) : zMet l yX0_readPraise cX0_readPraise 2 (Option.none : Option FieldType) 5 168 0 0 [zr G x0, zr G x1] G v none w := by
  refine zM_of (own := RX0) (by decide) rfl (Nat.le_of_ble_eq_true rfl) (fun x hl F hr hk hcs => ?_)
  subst hl
  refine z_ls [(0, zr G x0), (1, zr G x1)] [0, 1] rfl ?_
  unfold fX0_readPraise at h
  refine z_aload_n F dX0_readPraise_0 rfl 0 rfl ?_
  refine zg_0_13 F t0 wF_X0_34 dX0_readPraise_1 ?_
  refine z_aload_n F dX0_readPraise_4 rfl 0 rfl ?_
  refine zg_0_5 F t0 wF_X0_55 dX0_readPraise_5 ?_
  refine z_aload_n F dX0_readPraise_8 rfl 1 rfl ?_
  refine z_iconst (y := (1 : Int32)) F dX0_readPraise_9 rfl ?_
  refine z_bipush (y := (60 : Int32)) F dX0_readPraise_10 rfl ?_
  obtain ⟨r_2, v_1, hq12, h⟩ := zbind_ex h
  refine z_callVi F [.int (1 : Int32), .int (60 : Int32)] [.int (v x0 5), zr G (zrf x0 13)] (kX8_number x.2.1 G x1 t1 (1 : Int32) (60 : Int32) v r_2 v_1 hq12) mI_X8_number (c := 8) rfl t1 wM_X0_131 mi_X8_number sl_X8_number dX0_readPraise_12 rfl ⟨Nat.le_of_ble_eq_true rfl, Nat.le_of_ble_eq_true rfl⟩ rfl (Nat.le_of_ble_eq_true rfl) ⟨Nat.zero_le _, Nat.zero_le _⟩ ?_
  obtain ⟨v_3, hq15, h⟩ := zbindv_ex h
  refine z_callSNv F [zr G (zrf x0 13), .int (v x0 5), .int r_2] [] (kX9_set x.2.1 G (zrf x0 13) (zt_f tc_0_13 t0) (v x0 5) r_2 v_1 v_3 hq15) mI_X9_set wN_X0_135 ms_X9_set dX0_readPraise_15 rfl ⟨Nat.le_of_ble_eq_true rfl, Nat.le_of_ble_eq_true rfl⟩ rfl (Nat.le_of_ble_eq_true rfl) ⟨Nat.zero_le _, Nat.zero_le _⟩ ?_
  refine z_aload_n F dX0_readPraise_18 rfl 0 rfl ?_
  refine zg_0_14 F t0 wF_X0_37 dX0_readPraise_19 ?_
  refine z_aload_n F dX0_readPraise_22 rfl 0 rfl ?_
  refine zg_0_5 F t0 wF_X0_55 dX0_readPraise_23 ?_
  refine z_aload_n F dX0_readPraise_26 rfl 0 rfl ?_
  refine z_aload_n F dX0_readPraise_27 rfl 1 rfl ?_
  obtain ⟨r_5, v_4, hq28, h⟩ := zbind_ex h
  refine z_callVi F [zr G x1] [.int (v_3 x0 5), zr G (zrf x0 14)] (kX0_readKnownMan x.2.1 G x0 t0 x1 t1 v_3 r_5 v_4 hq28) mI_X0_readKnownMan (c := 0) rfl t0 wM_X0_143 mi_X0_readKnownMan sl_X0_readKnownMan dX0_readPraise_28 rfl ⟨Nat.le_of_ble_eq_true rfl, Nat.le_of_ble_eq_true rfl⟩ rfl (Nat.le_of_ble_eq_true rfl) ⟨Nat.zero_le _, Nat.zero_le _⟩ ?_
  obtain ⟨v_6, hq31, h⟩ := zbindv_ex h
  refine z_callSNv F [zr G (zrf x0 14), .int (v_3 x0 5), .int r_5] [] (kX9_set x.2.1 G (zrf x0 14) (zt_f tc_0_14 t0) (v_3 x0 5) r_5 v_4 v_6 hq31) mI_X9_set wN_X0_135 ms_X9_set dX0_readPraise_31 rfl ⟨Nat.le_of_ble_eq_true rfl, Nat.le_of_ble_eq_true rfl⟩ rfl (Nat.le_of_ble_eq_true rfl) ⟨Nat.zero_le _, Nat.zero_le _⟩ ?_
  refine z_aload_n F dX0_readPraise_34 rfl 0 rfl ?_
  refine zg_0_15 F t0 wF_X0_40 dX0_readPraise_35 ?_
  refine z_aload_n F dX0_readPraise_38 rfl 0 rfl ?_
  refine zg_0_5 F t0 wF_X0_55 dX0_readPraise_39 ?_
  refine z_aload_n F dX0_readPraise_42 rfl 1 rfl ?_
  refine z_iconst (y := (1 : Int32)) F dX0_readPraise_43 rfl ?_
  refine z_bipush (y := (99 : Int32)) F dX0_readPraise_44 rfl ?_
  obtain ⟨r_8, v_7, hq46, h⟩ := zbind_ex h
  refine z_callVi F [.int (1 : Int32), .int (99 : Int32)] [.int (v_6 x0 5), zr G (zrf x0 15)] (kX8_number x.2.1 G x1 t1 (1 : Int32) (99 : Int32) v_6 r_8 v_7 hq46) mI_X8_number (c := 8) rfl t1 wM_X0_131 mi_X8_number sl_X8_number dX0_readPraise_46 rfl ⟨Nat.le_of_ble_eq_true rfl, Nat.le_of_ble_eq_true rfl⟩ rfl (Nat.le_of_ble_eq_true rfl) ⟨Nat.zero_le _, Nat.zero_le _⟩ ?_
  obtain ⟨v_9, hq49, h⟩ := zbindv_ex h
  refine z_callSNv F [zr G (zrf x0 15), .int (v_6 x0 5), .int r_8] [] (kX9_set x.2.1 G (zrf x0 15) (zt_f tc_0_15 t0) (v_6 x0 5) r_8 v_7 v_9 hq49) mI_X9_set wN_X0_135 ms_X9_set dX0_readPraise_49 rfl ⟨Nat.le_of_ble_eq_true rfl, Nat.le_of_ble_eq_true rfl⟩ rfl (Nat.le_of_ble_eq_true rfl) ⟨Nat.zero_le _, Nat.zero_le _⟩ ?_
  refine z_aload_n F dX0_readPraise_52 rfl 0 rfl ?_
  refine z_dup F dX0_readPraise_53 rfl ?_
  refine zg_0_5 F t0 wF_X0_55 dX0_readPraise_54 ?_
  refine z_iconst (y := (1 : Int32)) F dX0_readPraise_57 rfl ?_
  refine z_iadd F dX0_readPraise_58 ?_
  refine zp_0_5 F t0 wF_X0_55 dX0_readPraise_59 ?_
  obtain ⟨v_10, ev_10, h⟩ := zlet_ex h
  refine z_heap ev_10 ?_
  cases h
  exact z_retv F hr hk dX0_readPraise_62

theorem dX0_readClause_0 : decode cX0_readClause 0 = .ok (.aload_n 1, 1) := by decide +kernel
theorem dX0_readClause_1 : decode cX0_readClause 1 = .ok (.invokevirtual 78, 3) := by decide +kernel
theorem dX0_readClause_4 : decode cX0_readClause 4 = .ok (.istore_n 3, 1) := by decide +kernel
theorem dX0_readClause_5 : decode cX0_readClause 5 = .ok (.aload_n 1, 1) := by decide +kernel
theorem dX0_readClause_6 : decode cX0_readClause 6 = .ok (.invokestatic 81, 3) := by decide +kernel
theorem dX0_readClause_9 : decode cX0_readClause 9 = .ok (.istore 4, 2) := by decide +kernel
theorem dX0_readClause_11 : decode cX0_readClause 11 = .ok (.iload 4, 2) := by decide +kernel
theorem dX0_readClause_13 : decode cX0_readClause 13 = .ok (.iconst (-1), 1) := by decide +kernel
theorem dX0_readClause_14 : decode cX0_readClause 14 = .ok (.if_icmp .ne 10, 3) := by decide +kernel
theorem dX0_readClause_17 : decode cX0_readClause 17 = .ok (.aload_n 1, 1) := by decide +kernel
theorem dX0_readClause_18 : decode cX0_readClause 18 = .ok (.iconst 1, 1) := by decide +kernel
theorem dX0_readClause_19 : decode cX0_readClause 19 = .ok (.iload_n 3, 1) := by decide +kernel
theorem dX0_readClause_20 : decode cX0_readClause 20 = .ok (.invokevirtual 85, 3) := by decide +kernel
theorem dX0_readClause_23 : decode cX0_readClause 23 = .ok (.return_, 1) := by decide +kernel
theorem dX0_readClause_24 : decode cX0_readClause 24 = .ok (.iload_n 2, 1) := by decide +kernel
theorem dX0_readClause_25 : decode cX0_readClause 25 = .ok (.bipush 60, 2) := by decide +kernel
theorem dX0_readClause_27 : decode cX0_readClause 27 = .ok (.if_icmp .lt 7, 3) := by decide +kernel
theorem dX0_readClause_30 : decode cX0_readClause 30 = .ok (.iconst 3, 1) := by decide +kernel
theorem dX0_readClause_31 : decode cX0_readClause 31 = .ok (.goto 9, 3) := by decide +kernel
theorem dX0_readClause_34 : decode cX0_readClause 34 = .ok (.aload_n 0, 1) := by decide +kernel
theorem dX0_readClause_35 : decode cX0_readClause 35 = .ok (.iload 4, 2) := by decide +kernel
theorem dX0_readClause_37 : decode cX0_readClause 37 = .ok (.invokevirtual 89, 3) := by decide +kernel
theorem dX0_readClause_40 : decode cX0_readClause 40 = .ok (.istore 5, 2) := by decide +kernel
theorem dX0_readClause_42 : decode cX0_readClause 42 = .ok (.iload 5, 2) := by decide +kernel
theorem dX0_readClause_44 : decode cX0_readClause 44 = .ok (.ifCond .eq 11, 3) := by decide +kernel
theorem dX0_readClause_47 : decode cX0_readClause 47 = .ok (.aload_n 1, 1) := by decide +kernel
theorem dX0_readClause_48 : decode cX0_readClause 48 = .ok (.iload 5, 2) := by decide +kernel
theorem dX0_readClause_50 : decode cX0_readClause 50 = .ok (.iload_n 3, 1) := by decide +kernel
theorem dX0_readClause_51 : decode cX0_readClause 51 = .ok (.invokevirtual 85, 3) := by decide +kernel
theorem dX0_readClause_54 : decode cX0_readClause 54 = .ok (.return_, 1) := by decide +kernel
theorem dX0_readClause_55 : decode cX0_readClause 55 = .ok (.iload 4, 2) := by decide +kernel
theorem dX0_readClause_57 : decode cX0_readClause 57 = .ok (.tableswitch 75 0 4 #[35, 43, 51, 59, 67], 35) := by decide +kernel
theorem dX0_readClause_92 : decode cX0_readClause 92 = .ok (.aload_n 0, 1) := by decide +kernel
theorem dX0_readClause_93 : decode cX0_readClause 93 = .ok (.aload_n 1, 1) := by decide +kernel
theorem dX0_readClause_94 : decode cX0_readClause 94 = .ok (.invokevirtual 93, 3) := by decide +kernel
theorem dX0_readClause_97 : decode cX0_readClause 97 = .ok (.goto 40, 3) := by decide +kernel
theorem dX0_readClause_100 : decode cX0_readClause 100 = .ok (.aload_n 0, 1) := by decide +kernel
theorem dX0_readClause_101 : decode cX0_readClause 101 = .ok (.aload_n 1, 1) := by decide +kernel
theorem dX0_readClause_102 : decode cX0_readClause 102 = .ok (.invokevirtual 97, 3) := by decide +kernel
theorem dX0_readClause_105 : decode cX0_readClause 105 = .ok (.goto 32, 3) := by decide +kernel
theorem dX0_readClause_108 : decode cX0_readClause 108 = .ok (.aload_n 0, 1) := by decide +kernel
theorem dX0_readClause_109 : decode cX0_readClause 109 = .ok (.aload_n 1, 1) := by decide +kernel
theorem dX0_readClause_110 : decode cX0_readClause 110 = .ok (.invokevirtual 100, 3) := by decide +kernel
theorem dX0_readClause_113 : decode cX0_readClause 113 = .ok (.goto 24, 3) := by decide +kernel
theorem dX0_readClause_116 : decode cX0_readClause 116 = .ok (.aload_n 0, 1) := by decide +kernel
theorem dX0_readClause_117 : decode cX0_readClause 117 = .ok (.aload_n 1, 1) := by decide +kernel
theorem dX0_readClause_118 : decode cX0_readClause 118 = .ok (.invokevirtual 103, 3) := by decide +kernel
theorem dX0_readClause_121 : decode cX0_readClause 121 = .ok (.goto 16, 3) := by decide +kernel
theorem dX0_readClause_124 : decode cX0_readClause 124 = .ok (.aload_n 0, 1) := by decide +kernel
theorem dX0_readClause_125 : decode cX0_readClause 125 = .ok (.aload_n 1, 1) := by decide +kernel
theorem dX0_readClause_126 : decode cX0_readClause 126 = .ok (.invokevirtual 106, 3) := by decide +kernel
theorem dX0_readClause_129 : decode cX0_readClause 129 = .ok (.goto 8, 3) := by decide +kernel
theorem dX0_readClause_132 : decode cX0_readClause 132 = .ok (.aload_n 0, 1) := by decide +kernel
theorem dX0_readClause_133 : decode cX0_readClause 133 = .ok (.aload_n 1, 1) := by decide +kernel
theorem dX0_readClause_134 : decode cX0_readClause 134 = .ok (.invokevirtual 109, 3) := by decide +kernel
theorem dX0_readClause_137 : decode cX0_readClause 137 = .ok (.aload_n 1, 1) := by decide +kernel
theorem dX0_readClause_138 : decode cX0_readClause 138 = .ok (.bipush 59, 2) := by decide +kernel
theorem dX0_readClause_140 : decode cX0_readClause 140 = .ok (.invokevirtual 112, 3) := by decide +kernel
theorem dX0_readClause_143 : decode cX0_readClause 143 = .ok (.return_, 1) := by decide +kernel
def fX0_readClause_40  (x0 : Nat) (x1 : Nat) (x3 : Int32) (x4 : Int32) (s0 : Int32) (v : zV) : Option zV :=
  if s0 = (0 : Int32) then
    if x4 = (0 : Int32) then
      zbindv (fX0_readQuestion x0 x1 v) fun v_1 =>
      zbindv (fX8_sign x1 (59 : Int32) v_1) fun v_2 =>
      some v_2
    else
      if x4 = (1 : Int32) then
        zbindv (fX0_readMan x0 x1 v) fun v_3 =>
        zbindv (fX8_sign x1 (59 : Int32) v_3) fun v_4 =>
        some v_4
      else
        if x4 = (2 : Int32) then
          zbindv (fX0_readSeat x0 x1 v) fun v_5 =>
          zbindv (fX8_sign x1 (59 : Int32) v_5) fun v_6 =>
          some v_6
        else
          if x4 = (3 : Int32) then
            zbindv (fX0_readChairs x0 x1 v) fun v_7 =>
            zbindv (fX8_sign x1 (59 : Int32) v_7) fun v_8 =>
            some v_8
          else
            if x4 = (4 : Int32) then
              zbindv (fX0_readDeath x0 x1 v) fun v_9 =>
              zbindv (fX8_sign x1 (59 : Int32) v_9) fun v_10 =>
              some v_10
            else
              zbindv (fX0_readPraise x0 x1 v) fun v_11 =>
              zbindv (fX8_sign x1 (59 : Int32) v_11) fun v_12 =>
              some v_12
  else
    zbindv (fX8_fail x1 s0 x3 v) fun v_13 =>
    some v_13
set_option maxRecDepth 4000 in
theorem jX0_readClause_40 (x : zCx) (G : zG) (F : zF x G cX0_readClause 6 RX0 7 244) (hr : x.2.2.2.2.2.2.2.2.1.sig.returnType = (Option.none : Option FieldType)) (hk : x.2.2.2.2.2.2.2.2.1.locks = false) (w : zV)  : ∀ (x0 : Nat) (t0 : zty G x0 1 0) (x1 : Nat) (t1 : zty G x1 1 8) (x3 : Int32) (x4 : Int32) (s0 : Int32) (v : zV), fX0_readClause_40 x0 x1 x3 x4 s0 v = some w → zJ x G 6 (zQ x G none w 0 0) 0 0 40 [(0, zr G x0), (1, zr G x1), (3, .int x3), (4, .int x4)] [.int s0] v := by
  intro x0 t0 x1 t1 x3 x4 s0 v h
  unfold fX0_readClause_40 at h
  refine z_istore (n := 0) F [(5, .int s0), (0, zr G x0), (1, zr G x1), (3, .int x3), (4, .int x4)] dX0_readClause_40 (Nat.le_of_ble_eq_true rfl) rfl ?_
  refine z_iload F dX0_readClause_42 0 rfl ?_
  refine z_if_eq F 55 dX0_readClause_44 rfl (fun hc => ?_) (fun hc => ?_)
  · replace h := zif_t hc h
    refine z_iload F dX0_readClause_55 4 rfl ?_
    by_cases hc : x4 = (0 : Int32)
    · replace h := zif_t hc h
      refine z_swIn F 92 hc dX0_readClause_57 (by decide) (by decide) rfl rfl ?_
      refine z_aload_n F dX0_readClause_92 rfl 1 rfl ?_
      refine z_aload_n F dX0_readClause_93 rfl 2 rfl ?_
      obtain ⟨v_1, hq94, h⟩ := zbindv_ex h
      refine z_callVv F [zr G x1] [] (kX0_readQuestion x.2.1 G x0 t0 x1 t1 v v_1 hq94) mI_X0_readQuestion (c := 0) rfl t0 wM_X0_93 mi_X0_readQuestion sl_X0_readQuestion dX0_readClause_94 rfl ⟨Nat.le_of_ble_eq_true rfl, Nat.le_of_ble_eq_true rfl⟩ rfl (Nat.le_of_ble_eq_true rfl) ⟨Nat.zero_le _, Nat.zero_le _⟩ ?_
      refine z_goto F 137 dX0_readClause_97 rfl ?_
      refine z_aload_n F dX0_readClause_137 rfl 2 rfl ?_
      refine z_bipush (y := (59 : Int32)) F dX0_readClause_138 rfl ?_
      obtain ⟨v_2, hq140, h⟩ := zbindv_ex h
      refine z_callVv F [.int (59 : Int32)] [] (kX8_sign x.2.1 G x1 t1 (59 : Int32) v_1 v_2 hq140) mI_X8_sign (c := 8) rfl t1 wM_X0_112 mi_X8_sign sl_X8_sign dX0_readClause_140 rfl ⟨Nat.le_of_ble_eq_true rfl, Nat.le_of_ble_eq_true rfl⟩ rfl (Nat.le_of_ble_eq_true rfl) ⟨Nat.zero_le _, Nat.zero_le _⟩ ?_
      cases h
      exact z_retv F hr hk dX0_readClause_143
    · replace h := zif_f hc h
      have hn0 := zsw_ne hc
      by_cases hc : x4 = (1 : Int32)
      · replace h := zif_t hc h
        refine z_swIn F 100 hc dX0_readClause_57 (by decide) (by decide) rfl rfl ?_
        refine z_aload_n F dX0_readClause_100 rfl 1 rfl ?_
        refine z_aload_n F dX0_readClause_101 rfl 2 rfl ?_
        obtain ⟨v_3, hq102, h⟩ := zbindv_ex h
        refine z_callVv F [zr G x1] [] (kX0_readMan x.2.1 G x0 t0 x1 t1 v v_3 hq102) mI_X0_readMan (c := 0) rfl t0 wM_X0_97 mi_X0_readMan sl_X0_readMan dX0_readClause_102 rfl ⟨Nat.le_of_ble_eq_true rfl, Nat.le_of_ble_eq_true rfl⟩ rfl (Nat.le_of_ble_eq_true rfl) ⟨Nat.zero_le _, Nat.zero_le _⟩ ?_
        refine z_goto F 137 dX0_readClause_105 rfl ?_
        refine z_aload_n F dX0_readClause_137 rfl 2 rfl ?_
        refine z_bipush (y := (59 : Int32)) F dX0_readClause_138 rfl ?_
        obtain ⟨v_4, hq140, h⟩ := zbindv_ex h
        refine z_callVv F [.int (59 : Int32)] [] (kX8_sign x.2.1 G x1 t1 (59 : Int32) v_3 v_4 hq140) mI_X8_sign (c := 8) rfl t1 wM_X0_112 mi_X8_sign sl_X8_sign dX0_readClause_140 rfl ⟨Nat.le_of_ble_eq_true rfl, Nat.le_of_ble_eq_true rfl⟩ rfl (Nat.le_of_ble_eq_true rfl) ⟨Nat.zero_le _, Nat.zero_le _⟩ ?_
        cases h
        exact z_retv F hr hk dX0_readClause_143
      · replace h := zif_f hc h
        have hn1 := zsw_ne hc
        by_cases hc : x4 = (2 : Int32)
        · replace h := zif_t hc h
          refine z_swIn F 108 hc dX0_readClause_57 (by decide) (by decide) rfl rfl ?_
          refine z_aload_n F dX0_readClause_108 rfl 1 rfl ?_
          refine z_aload_n F dX0_readClause_109 rfl 2 rfl ?_
          obtain ⟨v_5, hq110, h⟩ := zbindv_ex h
          refine z_callVv F [zr G x1] [] (kX0_readSeat x.2.1 G x0 t0 x1 t1 v v_5 hq110) mI_X0_readSeat (c := 0) rfl t0 wM_X0_100 mi_X0_readSeat sl_X0_readSeat dX0_readClause_110 rfl ⟨Nat.le_of_ble_eq_true rfl, Nat.le_of_ble_eq_true rfl⟩ rfl (Nat.le_of_ble_eq_true rfl) ⟨Nat.zero_le _, Nat.zero_le _⟩ ?_
          refine z_goto F 137 dX0_readClause_113 rfl ?_
          refine z_aload_n F dX0_readClause_137 rfl 2 rfl ?_
          refine z_bipush (y := (59 : Int32)) F dX0_readClause_138 rfl ?_
          obtain ⟨v_6, hq140, h⟩ := zbindv_ex h
          refine z_callVv F [.int (59 : Int32)] [] (kX8_sign x.2.1 G x1 t1 (59 : Int32) v_5 v_6 hq140) mI_X8_sign (c := 8) rfl t1 wM_X0_112 mi_X8_sign sl_X8_sign dX0_readClause_140 rfl ⟨Nat.le_of_ble_eq_true rfl, Nat.le_of_ble_eq_true rfl⟩ rfl (Nat.le_of_ble_eq_true rfl) ⟨Nat.zero_le _, Nat.zero_le _⟩ ?_
          cases h
          exact z_retv F hr hk dX0_readClause_143
        · replace h := zif_f hc h
          have hn2 := zsw_ne hc
          by_cases hc : x4 = (3 : Int32)
          · replace h := zif_t hc h
            refine z_swIn F 116 hc dX0_readClause_57 (by decide) (by decide) rfl rfl ?_
            refine z_aload_n F dX0_readClause_116 rfl 1 rfl ?_
            refine z_aload_n F dX0_readClause_117 rfl 2 rfl ?_
            obtain ⟨v_7, hq118, h⟩ := zbindv_ex h
            refine z_callVv F [zr G x1] [] (kX0_readChairs x.2.1 G x0 t0 x1 t1 v v_7 hq118) mI_X0_readChairs (c := 0) rfl t0 wM_X0_103 mi_X0_readChairs sl_X0_readChairs dX0_readClause_118 rfl ⟨Nat.le_of_ble_eq_true rfl, Nat.le_of_ble_eq_true rfl⟩ rfl (Nat.le_of_ble_eq_true rfl) ⟨Nat.zero_le _, Nat.zero_le _⟩ ?_
            refine z_goto F 137 dX0_readClause_121 rfl ?_
            refine z_aload_n F dX0_readClause_137 rfl 2 rfl ?_
            refine z_bipush (y := (59 : Int32)) F dX0_readClause_138 rfl ?_
            obtain ⟨v_8, hq140, h⟩ := zbindv_ex h
            refine z_callVv F [.int (59 : Int32)] [] (kX8_sign x.2.1 G x1 t1 (59 : Int32) v_7 v_8 hq140) mI_X8_sign (c := 8) rfl t1 wM_X0_112 mi_X8_sign sl_X8_sign dX0_readClause_140 rfl ⟨Nat.le_of_ble_eq_true rfl, Nat.le_of_ble_eq_true rfl⟩ rfl (Nat.le_of_ble_eq_true rfl) ⟨Nat.zero_le _, Nat.zero_le _⟩ ?_
            cases h
            exact z_retv F hr hk dX0_readClause_143
          · replace h := zif_f hc h
            have hn3 := zsw_ne hc
            by_cases hc : x4 = (4 : Int32)
            · replace h := zif_t hc h
              refine z_swIn F 124 hc dX0_readClause_57 (by decide) (by decide) rfl rfl ?_
              refine z_aload_n F dX0_readClause_124 rfl 1 rfl ?_
              refine z_aload_n F dX0_readClause_125 rfl 2 rfl ?_
              obtain ⟨v_9, hq126, h⟩ := zbindv_ex h
              refine z_callVv F [zr G x1] [] (kX0_readDeath x.2.1 G x0 t0 x1 t1 v v_9 hq126) mI_X0_readDeath (c := 0) rfl t0 wM_X0_106 mi_X0_readDeath sl_X0_readDeath dX0_readClause_126 rfl ⟨Nat.le_of_ble_eq_true rfl, Nat.le_of_ble_eq_true rfl⟩ rfl (Nat.le_of_ble_eq_true rfl) ⟨Nat.zero_le _, Nat.zero_le _⟩ ?_
              refine z_goto F 137 dX0_readClause_129 rfl ?_
              refine z_aload_n F dX0_readClause_137 rfl 2 rfl ?_
              refine z_bipush (y := (59 : Int32)) F dX0_readClause_138 rfl ?_
              obtain ⟨v_10, hq140, h⟩ := zbindv_ex h
              refine z_callVv F [.int (59 : Int32)] [] (kX8_sign x.2.1 G x1 t1 (59 : Int32) v_9 v_10 hq140) mI_X8_sign (c := 8) rfl t1 wM_X0_112 mi_X8_sign sl_X8_sign dX0_readClause_140 rfl ⟨Nat.le_of_ble_eq_true rfl, Nat.le_of_ble_eq_true rfl⟩ rfl (Nat.le_of_ble_eq_true rfl) ⟨Nat.zero_le _, Nat.zero_le _⟩ ?_
              cases h
              exact z_retv F hr hk dX0_readClause_143
            · replace h := zif_f hc h
              have hn4 := zsw_ne hc
              refine z_tableOut F 132 dX0_readClause_57 (by have q0 : ((0 : Int32) : Int32).toInt = 0 := rfl; have q1 : ((1 : Int32) : Int32).toInt = 1 := rfl; have q2 : ((2 : Int32) : Int32).toInt = 2 := rfl; have q3 : ((3 : Int32) : Int32).toInt = 3 := rfl; have q4 : ((4 : Int32) : Int32).toInt = 4 := rfl; omega) rfl ?_
              refine z_aload_n F dX0_readClause_132 rfl 1 rfl ?_
              refine z_aload_n F dX0_readClause_133 rfl 2 rfl ?_
              obtain ⟨v_11, hq134, h⟩ := zbindv_ex h
              refine z_callVv F [zr G x1] [] (kX0_readPraise x.2.1 G x0 t0 x1 t1 v v_11 hq134) mI_X0_readPraise (c := 0) rfl t0 wM_X0_109 mi_X0_readPraise sl_X0_readPraise dX0_readClause_134 rfl ⟨Nat.le_of_ble_eq_true rfl, Nat.le_of_ble_eq_true rfl⟩ rfl (Nat.le_of_ble_eq_true rfl) ⟨Nat.zero_le _, Nat.zero_le _⟩ ?_
              refine z_aload_n F dX0_readClause_137 rfl 2 rfl ?_
              refine z_bipush (y := (59 : Int32)) F dX0_readClause_138 rfl ?_
              obtain ⟨v_12, hq140, h⟩ := zbindv_ex h
              refine z_callVv F [.int (59 : Int32)] [] (kX8_sign x.2.1 G x1 t1 (59 : Int32) v_11 v_12 hq140) mI_X8_sign (c := 8) rfl t1 wM_X0_112 mi_X8_sign sl_X8_sign dX0_readClause_140 rfl ⟨Nat.le_of_ble_eq_true rfl, Nat.le_of_ble_eq_true rfl⟩ rfl (Nat.le_of_ble_eq_true rfl) ⟨Nat.zero_le _, Nat.zero_le _⟩ ?_
              cases h
              exact z_retv F hr hk dX0_readClause_143
  · replace h := zif_f hc h
    refine z_aload_n F dX0_readClause_47 rfl 2 rfl ?_
    refine z_iload F dX0_readClause_48 0 rfl ?_
    refine z_iload_n F dX0_readClause_50 rfl 3 rfl ?_
    obtain ⟨v_13, hq51, h⟩ := zbindv_ex h
    refine z_callVv F [.int s0, .int x3] [] (kX8_fail x.2.1 G x1 t1 s0 x3 v v_13 hq51) mI_X8_fail (c := 8) rfl t1 wM_X0_85 mi_X8_fail sl_X8_fail dX0_readClause_51 rfl ⟨Nat.le_of_ble_eq_true rfl, Nat.le_of_ble_eq_true rfl⟩ rfl (Nat.le_of_ble_eq_true rfl) ⟨Nat.zero_le _, Nat.zero_le _⟩ ?_
    cases h
    exact z_retv F hr hk dX0_readClause_54

def fX0_readClause (x0 : Nat) (x1 : Nat) (x2 : Int32) (v : zV) : Option zV :=
  zbind (fX8_lookAt x1 v) fun r_2 v_1 =>
  zbind (fX0_readKind x1 v_1) fun r_4 v_3 =>
  if r_4 = (-1 : Int32) then
    zbindv (fX8_fail x1 (1 : Int32) r_2 v_3) fun v_7 =>
    some v_7
  else
    if x2 < (60 : Int32) then
      zbind (fX0_faultOf x0 r_4 v_3) fun r_6 v_5 =>
      fX0_readClause_40  x0 x1 r_2 r_4 r_6 v_5
    else
      fX0_readClause_40  x0 x1 r_2 r_4 (3 : Int32) v_3
set_option maxRecDepth 4000 in
theorem kX0_readClause (l : Launch) (G : zG) (x0 : Nat) (t0 : zty G x0 1 0) (x1 : Nat) (t1 : zty G x1 1 8) (x2 : Int32) (v : zV) (w : zV) (h : fX0_readClause x0 x1 x2 v = some w) : zMet l yX0_readClause cX0_readClause 6 (Option.none : Option FieldType) 7 244 0 0 [zr G x0, zr G x1, .int x2] G v none w := by
  refine zM_of (own := RX0) (by decide) rfl (Nat.le_of_ble_eq_true rfl) (fun x hl F hr hk hcs => ?_)
  subst hl
  refine z_ls [(0, zr G x0), (1, zr G x1), (2, .int x2)] [0, 1, 2] rfl ?_
  unfold fX0_readClause at h
  refine z_aload_n F dX0_readClause_0 rfl 1 rfl ?_
  obtain ⟨r_2, v_1, hq1, h⟩ := zbind_ex h
  refine z_callVi F [] [] (kX8_lookAt x.2.1 G x1 t1 v r_2 v_1 hq1) mI_X8_lookAt (c := 8) rfl t1 wM_X0_78 mi_X8_lookAt sl_X8_lookAt dX0_readClause_1 rfl ⟨Nat.le_of_ble_eq_true rfl, Nat.le_of_ble_eq_true rfl⟩ rfl (Nat.le_of_ble_eq_true rfl) ⟨Nat.zero_le _, Nat.zero_le _⟩ ?_
  refine z_istore_n F [(3, .int r_2), (0, zr G x0), (1, zr G x1), (2, .int x2)] dX0_readClause_4 rfl (Nat.le_of_ble_eq_true rfl) rfl ?_
  refine z_aload_n F dX0_readClause_5 rfl 2 rfl ?_
  obtain ⟨r_4, v_3, hq6, h⟩ := zbind_ex h
  refine z_callSi F [zr G x1] [] (kX0_readKind x.2.1 G x1 t1 v_1 r_4 v_3 hq6) mI_X0_readKind wM_X0_81 ms_X0_readKind dX0_readClause_6 rfl ⟨Nat.le_of_ble_eq_true rfl, Nat.le_of_ble_eq_true rfl⟩ rfl (Nat.le_of_ble_eq_true rfl) ⟨Nat.zero_le _, Nat.zero_le _⟩ ?_
  refine z_istore (n := 0) F [(4, .int r_4), (3, .int r_2), (0, zr G x0), (1, zr G x1), (2, .int x2)] dX0_readClause_9 (Nat.le_of_ble_eq_true rfl) rfl ?_
  refine z_iload F dX0_readClause_11 0 rfl ?_
  refine z_iconst (y := (-1 : Int32)) F dX0_readClause_13 rfl ?_
  refine z_icmp_ne F 24 dX0_readClause_14 rfl (fun hc => ?_) (fun hc => ?_)
  · replace h := zif_f hc h
    refine z_iload_n F dX0_readClause_24 rfl 4 rfl ?_
    refine z_bipush (y := (60 : Int32)) F dX0_readClause_25 rfl ?_
    refine z_icmp_lt F 34 dX0_readClause_27 rfl (fun hc => ?_) (fun hc => ?_)
    · replace h := zif_t hc h
      refine z_aload_n F dX0_readClause_34 rfl 2 rfl ?_
      refine z_iload F dX0_readClause_35 0 rfl ?_
      obtain ⟨r_6, v_5, hq37, h⟩ := zbind_ex h
      refine z_callVi F [.int r_4] [] (kX0_faultOf x.2.1 G x0 t0 r_4 v_3 r_6 v_5 hq37) mI_X0_faultOf (c := 0) rfl t0 wM_X0_89 mi_X0_faultOf sl_X0_faultOf dX0_readClause_37 rfl ⟨Nat.le_of_ble_eq_true rfl, Nat.le_of_ble_eq_true rfl⟩ rfl (Nat.le_of_ble_eq_true rfl) ⟨Nat.zero_le _, Nat.zero_le _⟩ ?_
      refine z_ls [(0, zr G x0), (1, zr G x1), (3, .int r_2), (4, .int r_4)] [2, 3, 1, 0] rfl ?_
      exact jX0_readClause_40 x G F hr hk w   x0 t0 x1 t1 r_2 r_4 r_6 v_5 h
    · replace h := zif_f hc h
      refine z_iconst (y := (3 : Int32)) F dX0_readClause_30 rfl ?_
      refine z_goto F 40 dX0_readClause_31 rfl ?_
      refine z_ls [(0, zr G x0), (1, zr G x1), (3, .int r_2), (4, .int r_4)] [2, 3, 1, 0] rfl ?_
      exact jX0_readClause_40 x G F hr hk w   x0 t0 x1 t1 r_2 r_4 (3 : Int32) v_3 h
  · replace h := zif_t hc h
    refine z_aload_n F dX0_readClause_17 rfl 3 rfl ?_
    refine z_iconst (y := (1 : Int32)) F dX0_readClause_18 rfl ?_
    refine z_iload_n F dX0_readClause_19 rfl 1 rfl ?_
    obtain ⟨v_7, hq20, h⟩ := zbindv_ex h
    refine z_callVv F [.int (1 : Int32), .int r_2] [] (kX8_fail x.2.1 G x1 t1 (1 : Int32) r_2 v_3 v_7 hq20) mI_X8_fail (c := 8) rfl t1 wM_X0_85 mi_X8_fail sl_X8_fail dX0_readClause_20 rfl ⟨Nat.le_of_ble_eq_true rfl, Nat.le_of_ble_eq_true rfl⟩ rfl (Nat.le_of_ble_eq_true rfl) ⟨Nat.zero_le _, Nat.zero_le _⟩ ?_
    cases h
    exact z_retv F hr hk dX0_readClause_23

theorem dX0_read_0 : decode cX0_read 0 = .ok (.aload_n 0, 1) := by decide +kernel
theorem dX0_read_1 : decode cX0_read 1 = .ok (.iconst 0, 1) := by decide +kernel
theorem dX0_read_2 : decode cX0_read 2 = .ok (.putfield 43, 3) := by decide +kernel
theorem dX0_read_5 : decode cX0_read 5 = .ok (.aload_n 0, 1) := by decide +kernel
theorem dX0_read_6 : decode cX0_read 6 = .ok (.iconst 0, 1) := by decide +kernel
theorem dX0_read_7 : decode cX0_read 7 = .ok (.putfield 46, 3) := by decide +kernel
theorem dX0_read_10 : decode cX0_read 10 = .ok (.aload_n 0, 1) := by decide +kernel
theorem dX0_read_11 : decode cX0_read 11 = .ok (.bipush 6, 2) := by decide +kernel
theorem dX0_read_13 : decode cX0_read 13 = .ok (.putfield 9, 3) := by decide +kernel
theorem dX0_read_16 : decode cX0_read 16 = .ok (.aload_n 0, 1) := by decide +kernel
theorem dX0_read_17 : decode cX0_read 17 = .ok (.iconst 0, 1) := by decide +kernel
theorem dX0_read_18 : decode cX0_read 18 = .ok (.putfield 49, 3) := by decide +kernel
theorem dX0_read_21 : decode cX0_read 21 = .ok (.aload_n 0, 1) := by decide +kernel
theorem dX0_read_22 : decode cX0_read 22 = .ok (.iconst 0, 1) := by decide +kernel
theorem dX0_read_23 : decode cX0_read 23 = .ok (.putfield 52, 3) := by decide +kernel
theorem dX0_read_26 : decode cX0_read 26 = .ok (.aload_n 0, 1) := by decide +kernel
theorem dX0_read_27 : decode cX0_read 27 = .ok (.iconst 0, 1) := by decide +kernel
theorem dX0_read_28 : decode cX0_read 28 = .ok (.putfield 55, 3) := by decide +kernel
theorem dX0_read_31 : decode cX0_read 31 = .ok (.aload_n 0, 1) := by decide +kernel
theorem dX0_read_32 : decode cX0_read 32 = .ok (.iconst 0, 1) := by decide +kernel
theorem dX0_read_33 : decode cX0_read 33 = .ok (.putfield 64, 3) := by decide +kernel
theorem dX0_read_36 : decode cX0_read 36 = .ok (.iconst 0, 1) := by decide +kernel
theorem dX0_read_37 : decode cX0_read 37 = .ok (.istore_n 2, 1) := by decide +kernel
theorem dX0_read_38 : decode cX0_read 38 = .ok (.iload_n 2, 1) := by decide +kernel
theorem dX0_read_39 : decode cX0_read 39 = .ok (.bipush 60, 2) := by decide +kernel
theorem dX0_read_41 : decode cX0_read 41 = .ok (.if_icmp .gt 23, 3) := by decide +kernel
theorem dX0_read_44 : decode cX0_read 44 = .ok (.aload_n 1, 1) := by decide +kernel
theorem dX0_read_45 : decode cX0_read 45 = .ok (.invokevirtual 68, 3) := by decide +kernel
theorem dX0_read_48 : decode cX0_read 48 = .ok (.iconst (-1), 1) := by decide +kernel
theorem dX0_read_49 : decode cX0_read 49 = .ok (.if_icmp .eq 15, 3) := by decide +kernel
theorem dX0_read_52 : decode cX0_read 52 = .ok (.aload_n 0, 1) := by decide +kernel
theorem dX0_read_53 : decode cX0_read 53 = .ok (.aload_n 1, 1) := by decide +kernel
theorem dX0_read_54 : decode cX0_read 54 = .ok (.iload_n 2, 1) := by decide +kernel
theorem dX0_read_55 : decode cX0_read 55 = .ok (.invokevirtual 74, 3) := by decide +kernel
theorem dX0_read_58 : decode cX0_read 58 = .ok (.iinc 2 1, 3) := by decide +kernel
theorem dX0_read_61 : decode cX0_read 61 = .ok (.goto (-23), 3) := by decide +kernel
theorem dX0_read_64 : decode cX0_read 64 = .ok (.return_, 1) := by decide +kernel
def fX0_read_38  : Nat → Nat → Nat → Int32 → zV → Option zV
  | 0 => fun _ _ _ _ => none
  | n + 1 => fun x0 x1 x2 v =>
    if (60 : Int32) < x2 then
      some v
    else
      zbind (fX8_look x1 v) fun r_2 v_1 =>
      if r_2 = (-1 : Int32) then
        some v_1
      else
        zbindv (fX0_readClause x0 x1 x2 v_1) fun v_3 =>
        (fX0_read_38 n) x0 x1 (x2 + (1 : Int32)) v_3
set_option maxRecDepth 4000 in
theorem jX0_read_38 (x : zCx) (G : zG) (F : zF x G cX0_read 3 RX0 8 269) (hr : x.2.2.2.2.2.2.2.2.1.sig.returnType = (Option.none : Option FieldType)) (hk : x.2.2.2.2.2.2.2.2.1.locks = false) (w : zV)  : ∀ (n : Nat) (x0 : Nat) (t0 : zty G x0 1 0) (x1 : Nat) (t1 : zty G x1 1 8) (x2 : Int32) (v : zV), fX0_read_38 n x0 x1 x2 v = some w → zJ x G 3 (zQ x G none w 0 0) 0 0 38 [(0, zr G x0), (1, zr G x1), (2, .int x2)] [] v := by
  intro n
  induction n with
  | zero => intro x0 t0 x1 t1 x2 v h; exact absurd h (by intro q; cases q)
  | succ n ih =>
    intro x0 t0 x1 t1 x2 v h
    rw [fX0_read_38] at h
    dsimp only at h
    refine z_iload_n F dX0_read_38 rfl 2 rfl ?_
    refine z_bipush (y := (60 : Int32)) F dX0_read_39 rfl ?_
    refine z_icmp_gt F 64 dX0_read_41 rfl (fun hc => ?_) (fun hc => ?_)
    · replace h := zif_t hc h
      cases h
      exact z_retv F hr hk dX0_read_64
    · replace h := zif_f hc h
      refine z_aload_n F dX0_read_44 rfl 1 rfl ?_
      obtain ⟨r_2, v_1, hq45, h⟩ := zbind_ex h
      refine z_callVi F [] [] (kX8_look x.2.1 G x1 t1 v r_2 v_1 hq45) mI_X8_look (c := 8) rfl t1 wM_X0_68 mi_X8_look sl_X8_look dX0_read_45 rfl ⟨Nat.le_of_ble_eq_true rfl, Nat.le_of_ble_eq_true rfl⟩ rfl (Nat.le_of_ble_eq_true rfl) ⟨Nat.zero_le _, Nat.zero_le _⟩ ?_
      refine z_iconst (y := (-1 : Int32)) F dX0_read_48 rfl ?_
      refine z_icmp_eq F 64 dX0_read_49 rfl (fun hc => ?_) (fun hc => ?_)
      · replace h := zif_t hc h
        cases h
        exact z_retv F hr hk dX0_read_64
      · replace h := zif_f hc h
        refine z_aload_n F dX0_read_52 rfl 0 rfl ?_
        refine z_aload_n F dX0_read_53 rfl 1 rfl ?_
        refine z_iload_n F dX0_read_54 rfl 2 rfl ?_
        obtain ⟨v_3, hq55, h⟩ := zbindv_ex h
        refine z_callVv F [zr G x1, .int x2] [] (kX0_readClause x.2.1 G x0 t0 x1 t1 x2 v_1 v_3 hq55) mI_X0_readClause (c := 0) rfl t0 wM_X0_74 mi_X0_readClause sl_X0_readClause dX0_read_55 rfl ⟨Nat.le_of_ble_eq_true rfl, Nat.le_of_ble_eq_true rfl⟩ rfl (Nat.le_of_ble_eq_true rfl) ⟨Nat.zero_le _, Nat.zero_le _⟩ ?_
        refine z_iinc F [(2, .int (x2 + (1 : Int32))), (0, zr G x0), (1, zr G x1)] dX0_read_58 2 rfl rfl (Nat.le_of_ble_eq_true rfl) rfl ?_
        refine z_goto F 38 dX0_read_61 rfl ?_
        refine z_ls [(0, zr G x0), (1, zr G x1), (2, .int (x2 + (1 : Int32)))] [1, 2, 0] rfl ?_
        exact ih x0 t0 x1 t1 (x2 + (1 : Int32)) v_3 h

def fX0_read (x0 : Nat) (x1 : Nat) (v : zV) : Option zV :=
  zlet (zup v x0 0 (0 : Int32)) fun v_1 =>
  zlet (zup v_1 x0 1 (0 : Int32)) fun v_2 =>
  zlet (zup v_2 x0 2 (6 : Int32)) fun v_3 =>
  zlet (zup v_3 x0 3 (0 : Int32)) fun v_4 =>
  zlet (zup v_4 x0 4 (0 : Int32)) fun v_5 =>
  zlet (zup v_5 x0 5 (0 : Int32)) fun v_6 =>
  zlet (zup v_6 x0 6 (0 : Int32)) fun v_7 =>
  fX0_read_38  zFU x0 x1 (0 : Int32) v_7
set_option maxRecDepth 4000 in
theorem kX0_read (l : Launch) (G : zG) (x0 : Nat) (t0 : zty G x0 1 0) (x1 : Nat) (t1 : zty G x1 1 8) (v : zV) (w : zV) (h : fX0_read x0 x1 v = some w) : zMet l yX0_read cX0_read 3 (Option.none : Option FieldType) 8 269 0 0 [zr G x0, zr G x1] G v none w := by
  refine zM_of (own := RX0) (by decide) rfl (Nat.le_of_ble_eq_true rfl) (fun x hl F hr hk hcs => ?_)
  subst hl
  refine z_ls [(0, zr G x0), (1, zr G x1)] [0, 1] rfl ?_
  unfold fX0_read at h
  refine z_aload_n F dX0_read_0 rfl 0 rfl ?_
  refine z_iconst (y := (0 : Int32)) F dX0_read_1 rfl ?_
  refine zp_0_0 F t0 wF_X0_43 dX0_read_2 ?_
  obtain ⟨v_1, ev_1, h⟩ := zlet_ex h
  refine z_heap ev_1 ?_
  refine z_aload_n F dX0_read_5 rfl 0 rfl ?_
  refine z_iconst (y := (0 : Int32)) F dX0_read_6 rfl ?_
  refine zp_0_1 F t0 wF_X0_46 dX0_read_7 ?_
  obtain ⟨v_2, ev_2, h⟩ := zlet_ex h
  refine z_heap ev_2 ?_
  refine z_aload_n F dX0_read_10 rfl 0 rfl ?_
  refine z_bipush (y := (6 : Int32)) F dX0_read_11 rfl ?_
  refine zp_0_2 F t0 wF_X0_9 dX0_read_13 ?_
  obtain ⟨v_3, ev_3, h⟩ := zlet_ex h
  refine z_heap ev_3 ?_
  refine z_aload_n F dX0_read_16 rfl 0 rfl ?_
  refine z_iconst (y := (0 : Int32)) F dX0_read_17 rfl ?_
  refine zp_0_3 F t0 wF_X0_49 dX0_read_18 ?_
  obtain ⟨v_4, ev_4, h⟩ := zlet_ex h
  refine z_heap ev_4 ?_
  refine z_aload_n F dX0_read_21 rfl 0 rfl ?_
  refine z_iconst (y := (0 : Int32)) F dX0_read_22 rfl ?_
  refine zp_0_4 F t0 wF_X0_52 dX0_read_23 ?_
  obtain ⟨v_5, ev_5, h⟩ := zlet_ex h
  refine z_heap ev_5 ?_
  refine z_aload_n F dX0_read_26 rfl 0 rfl ?_
  refine z_iconst (y := (0 : Int32)) F dX0_read_27 rfl ?_
  refine zp_0_5 F t0 wF_X0_55 dX0_read_28 ?_
  obtain ⟨v_6, ev_6, h⟩ := zlet_ex h
  refine z_heap ev_6 ?_
  refine z_aload_n F dX0_read_31 rfl 0 rfl ?_
  refine z_iconst (y := (0 : Int32)) F dX0_read_32 rfl ?_
  refine zp_0_6 F rfl rfl t0 wF_X0_64 dX0_read_33 ?_
  obtain ⟨v_7, ev_7, h⟩ := zlet_ex h
  refine z_heap ev_7 ?_
  refine z_iconst (y := (0 : Int32)) F dX0_read_36 rfl ?_
  refine z_istore_n F [(2, .int (0 : Int32)), (0, zr G x0), (1, zr G x1)] dX0_read_37 rfl (Nat.le_of_ble_eq_true rfl) rfl ?_
  refine z_ls [(0, zr G x0), (1, zr G x1), (2, .int (0 : Int32))] [1, 2, 0] rfl ?_
  exact jX0_read_38 x G F hr hk w   zFU x0 t0 x1 t1 (0 : Int32) v_7 h

theorem dX0_sideOf_0 : decode cX0_sideOf 0 = .ok (.aload_n 0, 1) := by decide +kernel
theorem dX0_sideOf_1 : decode cX0_sideOf 1 = .ok (.getfield 22, 3) := by decide +kernel
theorem dX0_sideOf_4 : decode cX0_sideOf 4 = .ok (.iload_n 1, 1) := by decide +kernel
theorem dX0_sideOf_5 : decode cX0_sideOf 5 = .ok (.invokestatic 139, 3) := by decide +kernel
theorem dX0_sideOf_8 : decode cX0_sideOf 8 = .ok (.iconst 2, 1) := by decide +kernel
theorem dX0_sideOf_9 : decode cX0_sideOf 9 = .ok (.iload_n 2, 1) := by decide +kernel
theorem dX0_sideOf_10 : decode cX0_sideOf 10 = .ok (.imul, 1) := by decide +kernel
theorem dX0_sideOf_11 : decode cX0_sideOf 11 = .ok (.ishr, 1) := by decide +kernel
theorem dX0_sideOf_12 : decode cX0_sideOf 12 = .ok (.iconst 3, 1) := by decide +kernel
theorem dX0_sideOf_13 : decode cX0_sideOf 13 = .ok (.iand, 1) := by decide +kernel
theorem dX0_sideOf_14 : decode cX0_sideOf 14 = .ok (.ireturn, 1) := by decide +kernel
def fX0_sideOf (x0 : Nat) (x1 : Int32) (x2 : Int32) (v : zV) : Option (Int32 × zV) :=
  zbind (fX9_get (zrf x0 9) x1 v) fun r_2 v_1 =>
  some ((r_2 >>> (((2 : Int32) * x2) &&& 31)) &&& (3 : Int32), v_1)
set_option maxRecDepth 4000 in
theorem kX0_sideOf (l : Launch) (G : zG) (x0 : Nat) (t0 : zty G x0 1 0) (x1 : Int32) (x2 : Int32) (v : zV) (r : Int32) (w : zV) (h : fX0_sideOf x0 x1 x2 v = some (r, w)) : zMet l yX0_sideOf cX0_sideOf 3 (Option.some FieldType.int) 2 101 0 0 [zr G x0, .int x1, .int x2] G v (some (.int r)) w := by
  refine zM_of (own := RX0) (by decide) rfl (Nat.le_of_ble_eq_true rfl) (fun x hl F hr hk hcs => ?_)
  subst hl
  refine z_ls [(0, zr G x0), (1, .int x1), (2, .int x2)] [0, 1, 2] rfl ?_
  unfold fX0_sideOf at h
  refine z_aload_n F dX0_sideOf_0 rfl 0 rfl ?_
  refine zg_0_9 F t0 wF_X0_22 dX0_sideOf_1 ?_
  refine z_iload_n F dX0_sideOf_4 rfl 1 rfl ?_
  obtain ⟨r_2, v_1, hq5, h⟩ := zbind_ex h
  refine z_callSNi F [zr G (zrf x0 9), .int x1] [] (kX9_get x.2.1 G (zrf x0 9) (zt_f tc_0_9 t0) x1 v r_2 v_1 hq5) mI_X9_get wN_X0_139 ms_X9_get dX0_sideOf_5 rfl ⟨Nat.le_of_ble_eq_true rfl, Nat.le_of_ble_eq_true rfl⟩ rfl (Nat.le_of_ble_eq_true rfl) ⟨Nat.zero_le _, Nat.zero_le _⟩ ?_
  refine z_iconst (y := (2 : Int32)) F dX0_sideOf_8 rfl ?_
  refine z_iload_n F dX0_sideOf_9 rfl 2 rfl ?_
  refine z_imul F dX0_sideOf_10 ?_
  refine z_ishr F dX0_sideOf_11 ?_
  refine z_iconst (y := (3 : Int32)) F dX0_sideOf_12 rfl ?_
  refine z_iand F dX0_sideOf_13 ?_
  cases h
  exact z_reti F hr hk dX0_sideOf_14

theorem dX0_ageIn_0 : decode cX0_ageIn 0 = .ok (.aload_n 0, 1) := by decide +kernel
theorem dX0_ageIn_1 : decode cX0_ageIn 1 = .ok (.getfield 19, 3) := by decide +kernel
theorem dX0_ageIn_4 : decode cX0_ageIn 4 = .ok (.iload_n 1, 1) := by decide +kernel
theorem dX0_ageIn_5 : decode cX0_ageIn 5 = .ok (.invokestatic 139, 3) := by decide +kernel
theorem dX0_ageIn_8 : decode cX0_ageIn 8 = .ok (.iload_n 2, 1) := by decide +kernel
theorem dX0_ageIn_9 : decode cX0_ageIn 9 = .ok (.iadd, 1) := by decide +kernel
theorem dX0_ageIn_10 : decode cX0_ageIn 10 = .ok (.iconst 1, 1) := by decide +kernel
theorem dX0_ageIn_11 : decode cX0_ageIn 11 = .ok (.isub, 1) := by decide +kernel
theorem dX0_ageIn_12 : decode cX0_ageIn 12 = .ok (.ireturn, 1) := by decide +kernel
def fX0_ageIn (x0 : Nat) (x1 : Int32) (x2 : Int32) (v : zV) : Option (Int32 × zV) :=
  zbind (fX9_get (zrf x0 8) x1 v) fun r_2 v_1 =>
  some ((r_2 + x2) - (1 : Int32), v_1)
set_option maxRecDepth 4000 in
theorem kX0_ageIn (l : Launch) (G : zG) (x0 : Nat) (t0 : zty G x0 1 0) (x1 : Int32) (x2 : Int32) (v : zV) (r : Int32) (w : zV) (h : fX0_ageIn x0 x1 x2 v = some (r, w)) : zMet l yX0_ageIn cX0_ageIn 3 (Option.some FieldType.int) 2 101 0 0 [zr G x0, .int x1, .int x2] G v (some (.int r)) w := by
  refine zM_of (own := RX0) (by decide) rfl (Nat.le_of_ble_eq_true rfl) (fun x hl F hr hk hcs => ?_)
  subst hl
  refine z_ls [(0, zr G x0), (1, .int x1), (2, .int x2)] [0, 1, 2] rfl ?_
  unfold fX0_ageIn at h
  refine z_aload_n F dX0_ageIn_0 rfl 0 rfl ?_
  refine zg_0_8 F t0 wF_X0_19 dX0_ageIn_1 ?_
  refine z_iload_n F dX0_ageIn_4 rfl 1 rfl ?_
  obtain ⟨r_2, v_1, hq5, h⟩ := zbind_ex h
  refine z_callSNi F [zr G (zrf x0 8), .int x1] [] (kX9_get x.2.1 G (zrf x0 8) (zt_f tc_0_8 t0) x1 v r_2 v_1 hq5) mI_X9_get wN_X0_139 ms_X9_get dX0_ageIn_5 rfl ⟨Nat.le_of_ble_eq_true rfl, Nat.le_of_ble_eq_true rfl⟩ rfl (Nat.le_of_ble_eq_true rfl) ⟨Nat.zero_le _, Nat.zero_le _⟩ ?_
  refine z_iload_n F dX0_ageIn_8 rfl 2 rfl ?_
  refine z_iadd F dX0_ageIn_9 ?_
  refine z_iconst (y := (1 : Int32)) F dX0_ageIn_10 rfl ?_
  refine z_isub F dX0_ageIn_11 ?_
  cases h
  exact z_reti F hr hk dX0_ageIn_12

theorem dX0_differing_0 : decode cX0_differing 0 = .ok (.aload_n 0, 1) := by decide +kernel
theorem dX0_differing_1 : decode cX0_differing 1 = .ok (.getfield 22, 3) := by decide +kernel
theorem dX0_differing_4 : decode cX0_differing 4 = .ok (.iload_n 1, 1) := by decide +kernel
theorem dX0_differing_5 : decode cX0_differing 5 = .ok (.invokestatic 139, 3) := by decide +kernel
theorem dX0_differing_8 : decode cX0_differing 8 = .ok (.aload_n 0, 1) := by decide +kernel
theorem dX0_differing_9 : decode cX0_differing 9 = .ok (.getfield 22, 3) := by decide +kernel
theorem dX0_differing_12 : decode cX0_differing 12 = .ok (.iload_n 2, 1) := by decide +kernel
theorem dX0_differing_13 : decode cX0_differing 13 = .ok (.invokestatic 139, 3) := by decide +kernel
theorem dX0_differing_16 : decode cX0_differing 16 = .ok (.ixor, 1) := by decide +kernel
theorem dX0_differing_17 : decode cX0_differing 17 = .ok (.istore_n 3, 1) := by decide +kernel
theorem dX0_differing_18 : decode cX0_differing 18 = .ok (.iload_n 3, 1) := by decide +kernel
theorem dX0_differing_19 : decode cX0_differing 19 = .ok (.iload_n 3, 1) := by decide +kernel
theorem dX0_differing_20 : decode cX0_differing 20 = .ok (.iconst 1, 1) := by decide +kernel
theorem dX0_differing_21 : decode cX0_differing 21 = .ok (.ishr, 1) := by decide +kernel
theorem dX0_differing_22 : decode cX0_differing 22 = .ok (.ior, 1) := by decide +kernel
theorem dX0_differing_23 : decode cX0_differing 23 = .ok (.sipush 1365, 3) := by decide +kernel
theorem dX0_differing_26 : decode cX0_differing 26 = .ok (.iand, 1) := by decide +kernel
theorem dX0_differing_27 : decode cX0_differing 27 = .ok (.invokestatic 146, 3) := by decide +kernel
theorem dX0_differing_30 : decode cX0_differing 30 = .ok (.ireturn, 1) := by decide +kernel
def fX0_differing (x0 : Nat) (x1 : Int32) (x2 : Int32) (v : zV) : Option (Int32 × zV) :=
  zbind (fX9_get (zrf x0 9) x1 v) fun r_2 v_1 =>
  zbind (fX9_get (zrf x0 9) x2 v_1) fun r_4 v_3 =>
  zbind (fJ6_bitCount_0f7a4 (((r_2 ^^^ r_4) ||| ((r_2 ^^^ r_4) >>> ((1 : Int32) &&& 31))) &&& (1365 : Int32)) v_3) fun r_6 v_5 =>
  some (r_6, v_5)
set_option maxRecDepth 4000 in
theorem kX0_differing (l : Launch) (G : zG) (x0 : Nat) (t0 : zty G x0 1 0) (x1 : Int32) (x2 : Int32) (v : zV) (r : Int32) (w : zV) (h : fX0_differing x0 x1 x2 v = some (r, w)) : zMet l yX0_differing cX0_differing 4 (Option.some FieldType.int) 2 101 0 0 [zr G x0, .int x1, .int x2] G v (some (.int r)) w := by
  refine zM_of (own := RX0) (by decide) rfl (Nat.le_of_ble_eq_true rfl) (fun x hl F hr hk hcs => ?_)
  subst hl
  refine z_ls [(0, zr G x0), (1, .int x1), (2, .int x2)] [0, 1, 2] rfl ?_
  unfold fX0_differing at h
  refine z_aload_n F dX0_differing_0 rfl 0 rfl ?_
  refine zg_0_9 F t0 wF_X0_22 dX0_differing_1 ?_
  refine z_iload_n F dX0_differing_4 rfl 1 rfl ?_
  obtain ⟨r_2, v_1, hq5, h⟩ := zbind_ex h
  refine z_callSNi F [zr G (zrf x0 9), .int x1] [] (kX9_get x.2.1 G (zrf x0 9) (zt_f tc_0_9 t0) x1 v r_2 v_1 hq5) mI_X9_get wN_X0_139 ms_X9_get dX0_differing_5 rfl ⟨Nat.le_of_ble_eq_true rfl, Nat.le_of_ble_eq_true rfl⟩ rfl (Nat.le_of_ble_eq_true rfl) ⟨Nat.zero_le _, Nat.zero_le _⟩ ?_
  refine z_aload_n F dX0_differing_8 rfl 0 rfl ?_
  refine zg_0_9 F t0 wF_X0_22 dX0_differing_9 ?_
  refine z_iload_n F dX0_differing_12 rfl 2 rfl ?_
  obtain ⟨r_4, v_3, hq13, h⟩ := zbind_ex h
  refine z_callSNi F [zr G (zrf x0 9), .int x2] [.int r_2] (kX9_get x.2.1 G (zrf x0 9) (zt_f tc_0_9 t0) x2 v_1 r_4 v_3 hq13) mI_X9_get wN_X0_139 ms_X9_get dX0_differing_13 rfl ⟨Nat.le_of_ble_eq_true rfl, Nat.le_of_ble_eq_true rfl⟩ rfl (Nat.le_of_ble_eq_true rfl) ⟨Nat.zero_le _, Nat.zero_le _⟩ ?_
  refine z_ixor F dX0_differing_16 ?_
  refine z_istore_n F [(3, .int (r_2 ^^^ r_4)), (0, zr G x0), (1, .int x1), (2, .int x2)] dX0_differing_17 rfl (Nat.le_of_ble_eq_true rfl) rfl ?_
  refine z_iload_n F dX0_differing_18 rfl 0 rfl ?_
  refine z_iload_n F dX0_differing_19 rfl 0 rfl ?_
  refine z_iconst (y := (1 : Int32)) F dX0_differing_20 rfl ?_
  refine z_ishr F dX0_differing_21 ?_
  refine z_ior F dX0_differing_22 ?_
  refine z_sipush (y := (1365 : Int32)) F dX0_differing_23 rfl ?_
  refine z_iand F dX0_differing_26 ?_
  obtain ⟨r_6, v_5, hq27, h⟩ := zbind_ex h
  refine z_callSi F [.int (((r_2 ^^^ r_4) ||| ((r_2 ^^^ r_4) >>> ((1 : Int32) &&& 31))) &&& (1365 : Int32))] [] (kJ6_bitCount_0f7a4 x.2.1 G (((r_2 ^^^ r_4) ||| ((r_2 ^^^ r_4) >>> ((1 : Int32) &&& 31))) &&& (1365 : Int32)) v_3 r_6 v_5 hq27) mI_J6_bitCount_0f7a4 wM_X0_146 ms_J6_bitCount_0f7a4 dX0_differing_27 rfl ⟨Nat.le_of_ble_eq_true rfl, Nat.le_of_ble_eq_true rfl⟩ rfl (Nat.le_of_ble_eq_true rfl) ⟨Nat.zero_le _, Nat.zero_le _⟩ ?_
  cases h
  exact z_reti F hr hk dX0_differing_30

theorem dX0_believeTheSame_0 : decode cX0_believeTheSame 0 = .ok (.aload_n 0, 1) := by decide +kernel
theorem dX0_believeTheSame_1 : decode cX0_believeTheSame 1 = .ok (.getfield 22, 3) := by decide +kernel
theorem dX0_believeTheSame_4 : decode cX0_believeTheSame 4 = .ok (.iload_n 1, 1) := by decide +kernel
theorem dX0_believeTheSame_5 : decode cX0_believeTheSame 5 = .ok (.invokestatic 139, 3) := by decide +kernel
theorem dX0_believeTheSame_8 : decode cX0_believeTheSame 8 = .ok (.aload_n 0, 1) := by decide +kernel
theorem dX0_believeTheSame_9 : decode cX0_believeTheSame 9 = .ok (.getfield 22, 3) := by decide +kernel
theorem dX0_believeTheSame_12 : decode cX0_believeTheSame 12 = .ok (.iload_n 2, 1) := by decide +kernel
theorem dX0_believeTheSame_13 : decode cX0_believeTheSame 13 = .ok (.invokestatic 139, 3) := by decide +kernel
theorem dX0_believeTheSame_16 : decode cX0_believeTheSame 16 = .ok (.if_icmp .ne 7, 3) := by decide +kernel
theorem dX0_believeTheSame_19 : decode cX0_believeTheSame 19 = .ok (.iconst 1, 1) := by decide +kernel
theorem dX0_believeTheSame_20 : decode cX0_believeTheSame 20 = .ok (.goto 4, 3) := by decide +kernel
theorem dX0_believeTheSame_23 : decode cX0_believeTheSame 23 = .ok (.iconst 0, 1) := by decide +kernel
theorem dX0_believeTheSame_24 : decode cX0_believeTheSame 24 = .ok (.ireturn, 1) := by decide +kernel
def fX0_believeTheSame (x0 : Nat) (x1 : Int32) (x2 : Int32) (v : zV) : Option (Int32 × zV) :=
  zbind (fX9_get (zrf x0 9) x1 v) fun r_2 v_1 =>
  zbind (fX9_get (zrf x0 9) x2 v_1) fun r_4 v_3 =>
  if r_2 = r_4 then
    some ((1 : Int32), v_3)
  else
    some ((0 : Int32), v_3)
set_option maxRecDepth 4000 in
theorem kX0_believeTheSame (l : Launch) (G : zG) (x0 : Nat) (t0 : zty G x0 1 0) (x1 : Int32) (x2 : Int32) (v : zV) (r : Int32) (w : zV) (h : fX0_believeTheSame x0 x1 x2 v = some (r, w)) : zMet l yX0_believeTheSame cX0_believeTheSame 3 (Option.some FieldType.boolean) 2 101 0 0 [zr G x0, .int x1, .int x2] G v (some (.int r)) w := by
  refine zM_of (own := RX0) (by decide) rfl (Nat.le_of_ble_eq_true rfl) (fun x hl F hr hk hcs => ?_)
  subst hl
  refine z_ls [(0, zr G x0), (1, .int x1), (2, .int x2)] [0, 1, 2] rfl ?_
  unfold fX0_believeTheSame at h
  refine z_aload_n F dX0_believeTheSame_0 rfl 0 rfl ?_
  refine zg_0_9 F t0 wF_X0_22 dX0_believeTheSame_1 ?_
  refine z_iload_n F dX0_believeTheSame_4 rfl 1 rfl ?_
  obtain ⟨r_2, v_1, hq5, h⟩ := zbind_ex h
  refine z_callSNi F [zr G (zrf x0 9), .int x1] [] (kX9_get x.2.1 G (zrf x0 9) (zt_f tc_0_9 t0) x1 v r_2 v_1 hq5) mI_X9_get wN_X0_139 ms_X9_get dX0_believeTheSame_5 rfl ⟨Nat.le_of_ble_eq_true rfl, Nat.le_of_ble_eq_true rfl⟩ rfl (Nat.le_of_ble_eq_true rfl) ⟨Nat.zero_le _, Nat.zero_le _⟩ ?_
  refine z_aload_n F dX0_believeTheSame_8 rfl 0 rfl ?_
  refine zg_0_9 F t0 wF_X0_22 dX0_believeTheSame_9 ?_
  refine z_iload_n F dX0_believeTheSame_12 rfl 2 rfl ?_
  obtain ⟨r_4, v_3, hq13, h⟩ := zbind_ex h
  refine z_callSNi F [zr G (zrf x0 9), .int x2] [.int r_2] (kX9_get x.2.1 G (zrf x0 9) (zt_f tc_0_9 t0) x2 v_1 r_4 v_3 hq13) mI_X9_get wN_X0_139 ms_X9_get dX0_believeTheSame_13 rfl ⟨Nat.le_of_ble_eq_true rfl, Nat.le_of_ble_eq_true rfl⟩ rfl (Nat.le_of_ble_eq_true rfl) ⟨Nat.zero_le _, Nat.zero_le _⟩ ?_
  refine z_icmp_ne F 23 dX0_believeTheSame_16 rfl (fun hc => ?_) (fun hc => ?_)
  · replace h := zif_f hc h
    refine z_iconst (y := (0 : Int32)) F dX0_believeTheSame_23 rfl ?_
    cases h
    exact z_retz F hr hk rfl dX0_believeTheSame_24
  · replace h := zif_t hc h
    refine z_iconst (y := (1 : Int32)) F dX0_believeTheSame_19 rfl ?_
    refine z_goto F 24 dX0_believeTheSame_20 rfl ?_
    cases h
    exact z_retz F hr hk rfl dX0_believeTheSame_24

theorem dX0_praiseTold_0 : decode cX0_praiseTold 0 = .ok (.iconst 0, 1) := by decide +kernel
theorem dX0_praiseTold_1 : decode cX0_praiseTold 1 = .ok (.istore_n 3, 1) := by decide +kernel
theorem dX0_praiseTold_2 : decode cX0_praiseTold 2 = .ok (.iconst 0, 1) := by decide +kernel
theorem dX0_praiseTold_3 : decode cX0_praiseTold 3 = .ok (.istore 4, 2) := by decide +kernel
theorem dX0_praiseTold_5 : decode cX0_praiseTold 5 = .ok (.iload 4, 2) := by decide +kernel
theorem dX0_praiseTold_7 : decode cX0_praiseTold 7 = .ok (.aload_n 0, 1) := by decide +kernel
theorem dX0_praiseTold_8 : decode cX0_praiseTold 8 = .ok (.getfield 55, 3) := by decide +kernel
theorem dX0_praiseTold_11 : decode cX0_praiseTold 11 = .ok (.if_icmp .ge 47, 3) := by decide +kernel
theorem dX0_praiseTold_14 : decode cX0_praiseTold 14 = .ok (.aload_n 0, 1) := by decide +kernel
theorem dX0_praiseTold_15 : decode cX0_praiseTold 15 = .ok (.getfield 37, 3) := by decide +kernel
theorem dX0_praiseTold_18 : decode cX0_praiseTold 18 = .ok (.iload 4, 2) := by decide +kernel
theorem dX0_praiseTold_20 : decode cX0_praiseTold 20 = .ok (.invokestatic 139, 3) := by decide +kernel
theorem dX0_praiseTold_23 : decode cX0_praiseTold 23 = .ok (.iload_n 1, 1) := by decide +kernel
theorem dX0_praiseTold_24 : decode cX0_praiseTold 24 = .ok (.if_icmp .ne 28, 3) := by decide +kernel
theorem dX0_praiseTold_27 : decode cX0_praiseTold 27 = .ok (.aload_n 0, 1) := by decide +kernel
theorem dX0_praiseTold_28 : decode cX0_praiseTold 28 = .ok (.getfield 34, 3) := by decide +kernel
theorem dX0_praiseTold_31 : decode cX0_praiseTold 31 = .ok (.iload 4, 2) := by decide +kernel
theorem dX0_praiseTold_33 : decode cX0_praiseTold 33 = .ok (.invokestatic 139, 3) := by decide +kernel
theorem dX0_praiseTold_36 : decode cX0_praiseTold 36 = .ok (.iload_n 2, 1) := by decide +kernel
theorem dX0_praiseTold_37 : decode cX0_praiseTold 37 = .ok (.if_icmp .ne 15, 3) := by decide +kernel
theorem dX0_praiseTold_40 : decode cX0_praiseTold 40 = .ok (.iload_n 3, 1) := by decide +kernel
theorem dX0_praiseTold_41 : decode cX0_praiseTold 41 = .ok (.aload_n 0, 1) := by decide +kernel
theorem dX0_praiseTold_42 : decode cX0_praiseTold 42 = .ok (.getfield 40, 3) := by decide +kernel
theorem dX0_praiseTold_45 : decode cX0_praiseTold 45 = .ok (.iload 4, 2) := by decide +kernel
theorem dX0_praiseTold_47 : decode cX0_praiseTold 47 = .ok (.invokestatic 139, 3) := by decide +kernel
theorem dX0_praiseTold_50 : decode cX0_praiseTold 50 = .ok (.iadd, 1) := by decide +kernel
theorem dX0_praiseTold_51 : decode cX0_praiseTold 51 = .ok (.istore_n 3, 1) := by decide +kernel
theorem dX0_praiseTold_52 : decode cX0_praiseTold 52 = .ok (.iinc 4 1, 3) := by decide +kernel
theorem dX0_praiseTold_55 : decode cX0_praiseTold 55 = .ok (.goto (-50), 3) := by decide +kernel
theorem dX0_praiseTold_58 : decode cX0_praiseTold 58 = .ok (.iload_n 3, 1) := by decide +kernel
theorem dX0_praiseTold_59 : decode cX0_praiseTold 59 = .ok (.ireturn, 1) := by decide +kernel
def fX0_praiseTold_5  : Nat → Nat → Int32 → Int32 → Int32 → Int32 → zV → Option (Int32 × zV)
  | 0 => fun _ _ _ _ _ _ => none
  | n + 1 => fun x0 x1 x2 x3 x4 v =>
    if (v x0 5) ≤ x4 then
      some (x3, v)
    else
      zbind (fX9_get (zrf x0 14) x4 v) fun r_2 v_1 =>
      if r_2 = x1 then
        zbind (fX9_get (zrf x0 13) x4 v_1) fun r_4 v_3 =>
        if r_4 = x2 then
          zbind (fX9_get (zrf x0 15) x4 v_3) fun r_6 v_5 =>
          (fX0_praiseTold_5 n) x0 x1 x2 (x3 + r_6) (x4 + (1 : Int32)) v_5
        else
          (fX0_praiseTold_5 n) x0 x1 x2 x3 (x4 + (1 : Int32)) v_3
      else
        (fX0_praiseTold_5 n) x0 x1 x2 x3 (x4 + (1 : Int32)) v_1
set_option maxRecDepth 4000 in
theorem jX0_praiseTold_5 (x : zCx) (G : zG) (F : zF x G cX0_praiseTold 5 RX0 2 101) (hr : x.2.2.2.2.2.2.2.2.1.sig.returnType = (Option.some FieldType.int)) (hk : x.2.2.2.2.2.2.2.2.1.locks = false) (r : Int32) (w : zV)  : ∀ (n : Nat) (x0 : Nat) (t0 : zty G x0 1 0) (x1 : Int32) (x2 : Int32) (x3 : Int32) (x4 : Int32) (v : zV), fX0_praiseTold_5 n x0 x1 x2 x3 x4 v = some (r, w) → zJ x G 5 (zQ x G (some (.int r)) w 0 0) 0 0 5 [(0, zr G x0), (1, .int x1), (2, .int x2), (3, .int x3), (4, .int x4)] [] v := by
  intro n
  induction n with
  | zero => intro x0 t0 x1 x2 x3 x4 v h; exact absurd h (by intro q; cases q)
  | succ n ih =>
    intro x0 t0 x1 x2 x3 x4 v h
    rw [fX0_praiseTold_5] at h
    dsimp only at h
    refine z_iload F dX0_praiseTold_5 4 rfl ?_
    refine z_aload_n F dX0_praiseTold_7 rfl 0 rfl ?_
    refine zg_0_5 F t0 wF_X0_55 dX0_praiseTold_8 ?_
    refine z_icmp_ge F 58 dX0_praiseTold_11 rfl (fun hc => ?_) (fun hc => ?_)
    · replace h := zif_t hc h
      refine z_iload_n F dX0_praiseTold_58 rfl 3 rfl ?_
      cases h
      exact z_reti F hr hk dX0_praiseTold_59
    · replace h := zif_f hc h
      refine z_aload_n F dX0_praiseTold_14 rfl 0 rfl ?_
      refine zg_0_14 F t0 wF_X0_37 dX0_praiseTold_15 ?_
      refine z_iload F dX0_praiseTold_18 4 rfl ?_
      obtain ⟨r_2, v_1, hq20, h⟩ := zbind_ex h
      refine z_callSNi F [zr G (zrf x0 14), .int x4] [] (kX9_get x.2.1 G (zrf x0 14) (zt_f tc_0_14 t0) x4 v r_2 v_1 hq20) mI_X9_get wN_X0_139 ms_X9_get dX0_praiseTold_20 rfl ⟨Nat.le_of_ble_eq_true rfl, Nat.le_of_ble_eq_true rfl⟩ rfl (Nat.le_of_ble_eq_true rfl) ⟨Nat.zero_le _, Nat.zero_le _⟩ ?_
      refine z_iload_n F dX0_praiseTold_23 rfl 1 rfl ?_
      refine z_icmp_ne F 52 dX0_praiseTold_24 rfl (fun hc => ?_) (fun hc => ?_)
      · replace h := zif_f hc h
        refine z_iinc F [(4, .int (x4 + (1 : Int32))), (0, zr G x0), (1, .int x1), (2, .int x2), (3, .int x3)] dX0_praiseTold_52 4 rfl rfl (Nat.le_of_ble_eq_true rfl) rfl ?_
        refine z_goto F 5 dX0_praiseTold_55 rfl ?_
        refine z_ls [(0, zr G x0), (1, .int x1), (2, .int x2), (3, .int x3), (4, .int (x4 + (1 : Int32)))] [1, 2, 3, 4, 0] rfl ?_
        exact ih x0 t0 x1 x2 x3 (x4 + (1 : Int32)) v_1 h
      · replace h := zif_t hc h
        refine z_aload_n F dX0_praiseTold_27 rfl 0 rfl ?_
        refine zg_0_13 F t0 wF_X0_34 dX0_praiseTold_28 ?_
        refine z_iload F dX0_praiseTold_31 4 rfl ?_
        obtain ⟨r_4, v_3, hq33, h⟩ := zbind_ex h
        refine z_callSNi F [zr G (zrf x0 13), .int x4] [] (kX9_get x.2.1 G (zrf x0 13) (zt_f tc_0_13 t0) x4 v_1 r_4 v_3 hq33) mI_X9_get wN_X0_139 ms_X9_get dX0_praiseTold_33 rfl ⟨Nat.le_of_ble_eq_true rfl, Nat.le_of_ble_eq_true rfl⟩ rfl (Nat.le_of_ble_eq_true rfl) ⟨Nat.zero_le _, Nat.zero_le _⟩ ?_
        refine z_iload_n F dX0_praiseTold_36 rfl 2 rfl ?_
        refine z_icmp_ne F 52 dX0_praiseTold_37 rfl (fun hc => ?_) (fun hc => ?_)
        · replace h := zif_f hc h
          refine z_iinc F [(4, .int (x4 + (1 : Int32))), (0, zr G x0), (1, .int x1), (2, .int x2), (3, .int x3)] dX0_praiseTold_52 4 rfl rfl (Nat.le_of_ble_eq_true rfl) rfl ?_
          refine z_goto F 5 dX0_praiseTold_55 rfl ?_
          refine z_ls [(0, zr G x0), (1, .int x1), (2, .int x2), (3, .int x3), (4, .int (x4 + (1 : Int32)))] [1, 2, 3, 4, 0] rfl ?_
          exact ih x0 t0 x1 x2 x3 (x4 + (1 : Int32)) v_3 h
        · replace h := zif_t hc h
          refine z_iload_n F dX0_praiseTold_40 rfl 3 rfl ?_
          refine z_aload_n F dX0_praiseTold_41 rfl 0 rfl ?_
          refine zg_0_15 F t0 wF_X0_40 dX0_praiseTold_42 ?_
          refine z_iload F dX0_praiseTold_45 4 rfl ?_
          obtain ⟨r_6, v_5, hq47, h⟩ := zbind_ex h
          refine z_callSNi F [zr G (zrf x0 15), .int x4] [.int x3] (kX9_get x.2.1 G (zrf x0 15) (zt_f tc_0_15 t0) x4 v_3 r_6 v_5 hq47) mI_X9_get wN_X0_139 ms_X9_get dX0_praiseTold_47 rfl ⟨Nat.le_of_ble_eq_true rfl, Nat.le_of_ble_eq_true rfl⟩ rfl (Nat.le_of_ble_eq_true rfl) ⟨Nat.zero_le _, Nat.zero_le _⟩ ?_
          refine z_iadd F dX0_praiseTold_50 ?_
          refine z_istore_n F [(3, .int (x3 + r_6)), (0, zr G x0), (1, .int x1), (2, .int x2), (4, .int x4)] dX0_praiseTold_51 rfl (Nat.le_of_ble_eq_true rfl) rfl ?_
          refine z_iinc F [(4, .int (x4 + (1 : Int32))), (3, .int (x3 + r_6)), (0, zr G x0), (1, .int x1), (2, .int x2)] dX0_praiseTold_52 4 rfl rfl (Nat.le_of_ble_eq_true rfl) rfl ?_
          refine z_goto F 5 dX0_praiseTold_55 rfl ?_
          refine z_ls [(0, zr G x0), (1, .int x1), (2, .int x2), (3, .int (x3 + r_6)), (4, .int (x4 + (1 : Int32)))] [2, 3, 4, 1, 0] rfl ?_
          exact ih x0 t0 x1 x2 (x3 + r_6) (x4 + (1 : Int32)) v_5 h

def fX0_praiseTold (x0 : Nat) (x1 : Int32) (x2 : Int32) (v : zV) : Option (Int32 × zV) :=
  fX0_praiseTold_5  zFU x0 x1 x2 (0 : Int32) (0 : Int32) v
set_option maxRecDepth 4000 in
theorem kX0_praiseTold (l : Launch) (G : zG) (x0 : Nat) (t0 : zty G x0 1 0) (x1 : Int32) (x2 : Int32) (v : zV) (r : Int32) (w : zV) (h : fX0_praiseTold x0 x1 x2 v = some (r, w)) : zMet l yX0_praiseTold cX0_praiseTold 5 (Option.some FieldType.int) 2 101 0 0 [zr G x0, .int x1, .int x2] G v (some (.int r)) w := by
  refine zM_of (own := RX0) (by decide) rfl (Nat.le_of_ble_eq_true rfl) (fun x hl F hr hk hcs => ?_)
  subst hl
  refine z_ls [(0, zr G x0), (1, .int x1), (2, .int x2)] [0, 1, 2] rfl ?_
  unfold fX0_praiseTold at h
  refine z_iconst (y := (0 : Int32)) F dX0_praiseTold_0 rfl ?_
  refine z_istore_n F [(3, .int (0 : Int32)), (0, zr G x0), (1, .int x1), (2, .int x2)] dX0_praiseTold_1 rfl (Nat.le_of_ble_eq_true rfl) rfl ?_
  refine z_iconst (y := (0 : Int32)) F dX0_praiseTold_2 rfl ?_
  refine z_istore (n := 0) F [(4, .int (0 : Int32)), (3, .int (0 : Int32)), (0, zr G x0), (1, .int x1), (2, .int x2)] dX0_praiseTold_3 (Nat.le_of_ble_eq_true rfl) rfl ?_
  refine z_ls [(0, zr G x0), (1, .int x1), (2, .int x2), (3, .int (0 : Int32)), (4, .int (0 : Int32))] [2, 3, 4, 1, 0] rfl ?_
  exact jX0_praiseTold_5 x G F hr hk r w   zFU x0 t0 x1 x2 (0 : Int32) (0 : Int32) v h

