set_option maxRecDepth 20000 in
theorem kw_L_academy : Cond.codeWith yL_academy cL_academy 4 (some .int) [((0 : Nat), (9 : Nat), (12 : Nat), (13 : Nat))] ∈ zTbl := zTbl_of (zin_3 (List.mem_of_getElem? (i := 204) rfl)) rfl
theorem dL_academy_0 : decode cL_academy 0 = .ok (.aload_n 2, 1) := by decide +kernel
theorem dL_academy_1 : decode cL_academy 1 = .ok (.iconst 0, 1) := by decide +kernel
theorem dL_academy_2 : decode cL_academy 2 = .ok (.aload_n 0, 1) := by decide +kernel
theorem dL_academy_3 : decode cL_academy 3 = .ok (.iload_n 1, 1) := by decide +kernel
theorem dL_academy_4 : decode cL_academy 4 = .ok (.invokevirtual 7, 3) := by decide +kernel
theorem dL_academy_7 : decode cL_academy 7 = .ok (.i2l, 1) := by decide +kernel
theorem dL_academy_8 : decode cL_academy 8 = .ok (.lastore, 1) := by decide +kernel
theorem dL_academy_9 : decode cL_academy 9 = .ok (.goto 6, 3) := by decide +kernel
theorem dL_academy_12 : decode cL_academy 12 = .ok (.astore_n 3, 1) := by decide +kernel
theorem dL_academy_13 : decode cL_academy 13 = .ok (.iconst 1, 1) := by decide +kernel
theorem dL_academy_14 : decode cL_academy 14 = .ok (.ireturn, 1) := by decide +kernel
theorem dL_academy_15 : decode cL_academy 15 = .ok (.iconst 0, 1) := by decide +kernel
theorem dL_academy_16 : decode cL_academy 16 = .ok (.ireturn, 1) := by decide +kernel
def fL_academy (x0 : Nat) (x1 : Int32) (x2 : Nat) (v : zV) : Option (Int32 × zV) := zcatch (fX9_academy x0 x1 v) x2 none (some 1)
set_option maxRecDepth 4000 in
theorem kL_academy (l : Launch) (G : zG) (x0 : Nat) (t0 : zty G x0 1 9) (x1 : Int32) (x2 : Nat) (t2 : zty G x2 2 2) (v : zV) (r : Int32) (w : zV) (hfl9 : l.stackTraces = false) (h : fL_academy x0 x1 x2 v = some (r, w)) : zMetW l yL_academy cL_academy 4 (some .int) [((0 : Nat), (9 : Nat), (12 : Nat), (13 : Nat))] 10 312 1 6 [zr G x0, .int x1, zr G x2] G v (some (.int r)) w := by
  refine zMW_of (own := RL) (by decide) rfl (Nat.le_of_ble_eq_true rfl) (fun x hl F hr hk hcs htab => ?_)
  subst hl
  refine z_ls [(0, zr G x0), (1, .int x1), (2, zr G x2)] [0, 1, 2] rfl ?_
  refine z_aload_n F dL_academy_0 rfl 2 rfl ?_
  refine z_iconst (y := (0 : Int32)) F dL_academy_1 rfl ?_
  refine z_aload_n F dL_academy_2 rfl 0 rfl ?_
  refine z_iload_n F dL_academy_3 rfl 1 rfl ?_
  rcases zcatch_ex h with ⟨a1, v1, hq, hin, rfl, rfl⟩ | ⟨a1, hq, he⟩ | ⟨c1, a1, hq, he⟩
  · have hM9 := kX9_academy x.2.1 G x0 t0 x1 v 0 a1 v1 hfl9 hq
    refine z_xcall0 F [.int x1] [.int (0 : Int32), zr G x2] hM9 mI_X9_academy (c := 9) rfl t0 wM_L_7 mi_X9_academy sl_X9_academy dL_academy_4 rfl ⟨Nat.le_of_ble_eq_true rfl, Nat.le_of_ble_eq_true rfl⟩ rfl (Nat.le_of_ble_eq_true rfl) ⟨Nat.le_trans (Nat.le_of_ble_eq_true rfl) hcs.1, Nat.le_trans (Nat.le_of_ble_eq_true rfl) hcs.2⟩ ?_
    refine z_id (st := .int a1 :: [.int (0 : Int32), zr G x2]) ?_
    refine z_i2l F dL_academy_7 ?_
    refine z_last F t2 dL_academy_8 hin ?_
    refine z_goto F 15 dL_academy_9 rfl ?_
    refine z_iconst (y := (0 : Int32)) F dL_academy_15 rfl ?_
    exact z_reti F hr hk dL_academy_16
  · cases he
  · cases he
    have hM9 := kX9_academy x.2.1 G x0 t0 x1 v (c1 + 2) a1 w hfl9 hq
    refine z_xcallC F (E := "java/lang/IllegalArgumentException") (cd := c1 + 1) [] ⟨0, 9, 12, 13⟩ [] htab (zEx2 c1) (fun z hz => absurd hz List.not_mem_nil) (by decide) (by decide) zck_L_13 zcc_A [.int x1] [.int (0 : Int32), zr G x2] hM9 mI_X9_academy (c := 9) rfl t0 wM_L_7 mi_X9_academy sl_X9_academy dL_academy_4 rfl ⟨Nat.le_of_ble_eq_true rfl, Nat.le_of_ble_eq_true rfl⟩ rfl (Nat.le_of_ble_eq_true rfl) ⟨Nat.le_trans (Nat.le_of_ble_eq_true rfl) hcs.1, Nat.le_trans (Nat.le_of_ble_eq_true rfl) hcs.2⟩ (fun q => ?_)
    refine z_astore_n F [(3, .ref q), (0, zr G x0), (1, .int x1), (2, zr G x2)] dL_academy_12 rfl (Nat.le_of_ble_eq_true rfl) rfl ?_
    refine z_iconst (y := (1 : Int32)) F dL_academy_13 rfl ?_
    exact z_reti F hr hk dL_academy_14

set_option maxRecDepth 20000 in
theorem kw_L_law : Cond.codeWith yL_law cL_law 4 (some .int) [((0 : Nat), (9 : Nat), (12 : Nat), (13 : Nat))] ∈ zTbl := zTbl_of (zin_4 (List.mem_of_getElem? (i := 204) rfl)) rfl
theorem dL_law_0 : decode cL_law 0 = .ok (.aload_n 2, 1) := by decide +kernel
theorem dL_law_1 : decode cL_law 1 = .ok (.iconst 0, 1) := by decide +kernel
theorem dL_law_2 : decode cL_law 2 = .ok (.aload_n 0, 1) := by decide +kernel
theorem dL_law_3 : decode cL_law 3 = .ok (.iload_n 1, 1) := by decide +kernel
theorem dL_law_4 : decode cL_law 4 = .ok (.invokevirtual 15, 3) := by decide +kernel
theorem dL_law_7 : decode cL_law 7 = .ok (.i2l, 1) := by decide +kernel
theorem dL_law_8 : decode cL_law 8 = .ok (.lastore, 1) := by decide +kernel
theorem dL_law_9 : decode cL_law 9 = .ok (.goto 6, 3) := by decide +kernel
theorem dL_law_12 : decode cL_law 12 = .ok (.astore_n 3, 1) := by decide +kernel
theorem dL_law_13 : decode cL_law 13 = .ok (.iconst 1, 1) := by decide +kernel
theorem dL_law_14 : decode cL_law 14 = .ok (.ireturn, 1) := by decide +kernel
theorem dL_law_15 : decode cL_law 15 = .ok (.iconst 0, 1) := by decide +kernel
theorem dL_law_16 : decode cL_law 16 = .ok (.ireturn, 1) := by decide +kernel
def fL_law (x0 : Nat) (x1 : Int32) (x2 : Nat) (v : zV) : Option (Int32 × zV) := zcatch (fX9_law x0 x1 v) x2 none (some 1)
set_option maxRecDepth 4000 in
theorem kL_law (l : Launch) (G : zG) (x0 : Nat) (t0 : zty G x0 1 9) (x1 : Int32) (x2 : Nat) (t2 : zty G x2 2 2) (v : zV) (r : Int32) (w : zV) (hfl9 : l.stackTraces = false) (h : fL_law x0 x1 x2 v = some (r, w)) : zMetW l yL_law cL_law 4 (some .int) [((0 : Nat), (9 : Nat), (12 : Nat), (13 : Nat))] 184 5886 1 6 [zr G x0, .int x1, zr G x2] G v (some (.int r)) w := by
  refine zMW_of (own := RL) (by decide) rfl (Nat.le_of_ble_eq_true rfl) (fun x hl F hr hk hcs htab => ?_)
  subst hl
  refine z_ls [(0, zr G x0), (1, .int x1), (2, zr G x2)] [0, 1, 2] rfl ?_
  refine z_aload_n F dL_law_0 rfl 2 rfl ?_
  refine z_iconst (y := (0 : Int32)) F dL_law_1 rfl ?_
  refine z_aload_n F dL_law_2 rfl 0 rfl ?_
  refine z_iload_n F dL_law_3 rfl 1 rfl ?_
  rcases zcatch_ex h with ⟨a1, v1, hq, hin, rfl, rfl⟩ | ⟨a1, hq, he⟩ | ⟨c1, a1, hq, he⟩
  · have hM9 := kX9_law x.2.1 G x0 t0 x1 v 0 a1 v1 hfl9 hq
    refine z_xcall0 F [.int x1] [.int (0 : Int32), zr G x2] hM9 mI_X9_law (c := 9) rfl t0 wM_L_15 mi_X9_law sl_X9_law dL_law_4 rfl ⟨Nat.le_of_ble_eq_true rfl, Nat.le_of_ble_eq_true rfl⟩ rfl (Nat.le_of_ble_eq_true rfl) ⟨Nat.le_trans (Nat.le_of_ble_eq_true rfl) hcs.1, Nat.le_trans (Nat.le_of_ble_eq_true rfl) hcs.2⟩ ?_
    refine z_id (st := .int a1 :: [.int (0 : Int32), zr G x2]) ?_
    refine z_i2l F dL_law_7 ?_
    refine z_last F t2 dL_law_8 hin ?_
    refine z_goto F 15 dL_law_9 rfl ?_
    refine z_iconst (y := (0 : Int32)) F dL_law_15 rfl ?_
    exact z_reti F hr hk dL_law_16
  · cases he
  · cases he
    have hM9 := kX9_law x.2.1 G x0 t0 x1 v (c1 + 2) a1 w hfl9 hq
    refine z_xcallC F (E := "java/lang/IllegalArgumentException") (cd := c1 + 1) [] ⟨0, 9, 12, 13⟩ [] htab (zEx2 c1) (fun z hz => absurd hz List.not_mem_nil) (by decide) (by decide) zck_L_13 zcc_A [.int x1] [.int (0 : Int32), zr G x2] hM9 mI_X9_law (c := 9) rfl t0 wM_L_15 mi_X9_law sl_X9_law dL_law_4 rfl ⟨Nat.le_of_ble_eq_true rfl, Nat.le_of_ble_eq_true rfl⟩ rfl (Nat.le_of_ble_eq_true rfl) ⟨Nat.le_trans (Nat.le_of_ble_eq_true rfl) hcs.1, Nat.le_trans (Nat.le_of_ble_eq_true rfl) hcs.2⟩ (fun q => ?_)
    refine z_astore_n F [(3, .ref q), (0, zr G x0), (1, .int x1), (2, zr G x2)] dL_law_12 rfl (Nat.le_of_ble_eq_true rfl) rfl ?_
    refine z_iconst (y := (1 : Int32)) F dL_law_13 rfl ?_
    exact z_reti F hr hk dL_law_14

set_option maxRecDepth 20000 in
theorem kw_L_book : Cond.codeWith yL_book cL_book 4 (some .int) [((0 : Nat), (9 : Nat), (12 : Nat), (13 : Nat))] ∈ zTbl := zTbl_of (zin_5 (List.mem_of_getElem? (i := 25) rfl)) rfl
theorem dL_book_0 : decode cL_book 0 = .ok (.aload_n 2, 1) := by decide +kernel
theorem dL_book_1 : decode cL_book 1 = .ok (.iconst 0, 1) := by decide +kernel
theorem dL_book_2 : decode cL_book 2 = .ok (.aload_n 0, 1) := by decide +kernel
theorem dL_book_3 : decode cL_book 3 = .ok (.iload_n 1, 1) := by decide +kernel
theorem dL_book_4 : decode cL_book 4 = .ok (.invokevirtual 18, 3) := by decide +kernel
theorem dL_book_7 : decode cL_book 7 = .ok (.i2l, 1) := by decide +kernel
theorem dL_book_8 : decode cL_book 8 = .ok (.lastore, 1) := by decide +kernel
theorem dL_book_9 : decode cL_book 9 = .ok (.goto 6, 3) := by decide +kernel
theorem dL_book_12 : decode cL_book 12 = .ok (.astore_n 3, 1) := by decide +kernel
theorem dL_book_13 : decode cL_book 13 = .ok (.iconst 1, 1) := by decide +kernel
theorem dL_book_14 : decode cL_book 14 = .ok (.ireturn, 1) := by decide +kernel
theorem dL_book_15 : decode cL_book 15 = .ok (.iconst 0, 1) := by decide +kernel
theorem dL_book_16 : decode cL_book 16 = .ok (.ireturn, 1) := by decide +kernel
def fL_book (x0 : Nat) (x1 : Int32) (x2 : Nat) (v : zV) : Option (Int32 × zV) := zcatch (fX9_book x0 x1 v) x2 none (some 1)
set_option maxRecDepth 4000 in
theorem kL_book (l : Launch) (G : zG) (x0 : Nat) (t0 : zty G x0 1 9) (x1 : Int32) (x2 : Nat) (t2 : zty G x2 2 2) (v : zV) (r : Int32) (w : zV) (hfl9 : l.stackTraces = false) (h : fL_book x0 x1 x2 v = some (r, w)) : zMetW l yL_book cL_book 4 (some .int) [((0 : Nat), (9 : Nat), (12 : Nat), (13 : Nat))] 9 293 1 6 [zr G x0, .int x1, zr G x2] G v (some (.int r)) w := by
  refine zMW_of (own := RL) (by decide) rfl (Nat.le_of_ble_eq_true rfl) (fun x hl F hr hk hcs htab => ?_)
  subst hl
  refine z_ls [(0, zr G x0), (1, .int x1), (2, zr G x2)] [0, 1, 2] rfl ?_
  refine z_aload_n F dL_book_0 rfl 2 rfl ?_
  refine z_iconst (y := (0 : Int32)) F dL_book_1 rfl ?_
  refine z_aload_n F dL_book_2 rfl 0 rfl ?_
  refine z_iload_n F dL_book_3 rfl 1 rfl ?_
  rcases zcatch_ex h with ⟨a1, v1, hq, hin, rfl, rfl⟩ | ⟨a1, hq, he⟩ | ⟨c1, a1, hq, he⟩
  · have hM9 := kX9_book x.2.1 G x0 t0 x1 v 0 a1 v1 hfl9 hq
    refine z_xcall0 F [.int x1] [.int (0 : Int32), zr G x2] hM9 mI_X9_book (c := 9) rfl t0 wM_L_18 mi_X9_book sl_X9_book dL_book_4 rfl ⟨Nat.le_of_ble_eq_true rfl, Nat.le_of_ble_eq_true rfl⟩ rfl (Nat.le_of_ble_eq_true rfl) ⟨Nat.le_trans (Nat.le_of_ble_eq_true rfl) hcs.1, Nat.le_trans (Nat.le_of_ble_eq_true rfl) hcs.2⟩ ?_
    refine z_id (st := .int a1 :: [.int (0 : Int32), zr G x2]) ?_
    refine z_i2l F dL_book_7 ?_
    refine z_last F t2 dL_book_8 hin ?_
    refine z_goto F 15 dL_book_9 rfl ?_
    refine z_iconst (y := (0 : Int32)) F dL_book_15 rfl ?_
    exact z_reti F hr hk dL_book_16
  · cases he
  · cases he
    have hM9 := kX9_book x.2.1 G x0 t0 x1 v (c1 + 2) a1 w hfl9 hq
    refine z_xcallC F (E := "java/lang/IllegalArgumentException") (cd := c1 + 1) [] ⟨0, 9, 12, 13⟩ [] htab (zEx2 c1) (fun z hz => absurd hz List.not_mem_nil) (by decide) (by decide) zck_L_13 zcc_A [.int x1] [.int (0 : Int32), zr G x2] hM9 mI_X9_book (c := 9) rfl t0 wM_L_18 mi_X9_book sl_X9_book dL_book_4 rfl ⟨Nat.le_of_ble_eq_true rfl, Nat.le_of_ble_eq_true rfl⟩ rfl (Nat.le_of_ble_eq_true rfl) ⟨Nat.le_trans (Nat.le_of_ble_eq_true rfl) hcs.1, Nat.le_trans (Nat.le_of_ble_eq_true rfl) hcs.2⟩ (fun q => ?_)
    refine z_astore_n F [(3, .ref q), (0, zr G x0), (1, .int x1), (2, zr G x2)] dL_book_12 rfl (Nat.le_of_ble_eq_true rfl) rfl ?_
    refine z_iconst (y := (1 : Int32)) F dL_book_13 rfl ?_
    exact z_reti F hr hk dL_book_14

set_option maxRecDepth 20000 in
theorem kw_L_told : Cond.codeWith yL_told cL_told 4 (some .int) [((0 : Nat), (9 : Nat), (12 : Nat), (13 : Nat))] ∈ zTbl := zTbl_of (zin_5 (List.mem_of_getElem? (i := 58) rfl)) rfl
theorem dL_told_0 : decode cL_told 0 = .ok (.aload_n 2, 1) := by decide +kernel
theorem dL_told_1 : decode cL_told 1 = .ok (.iconst 0, 1) := by decide +kernel
theorem dL_told_2 : decode cL_told 2 = .ok (.aload_n 0, 1) := by decide +kernel
theorem dL_told_3 : decode cL_told 3 = .ok (.iload_n 1, 1) := by decide +kernel
theorem dL_told_4 : decode cL_told 4 = .ok (.invokevirtual 21, 3) := by decide +kernel
theorem dL_told_7 : decode cL_told 7 = .ok (.i2l, 1) := by decide +kernel
theorem dL_told_8 : decode cL_told 8 = .ok (.lastore, 1) := by decide +kernel
theorem dL_told_9 : decode cL_told 9 = .ok (.goto 6, 3) := by decide +kernel
theorem dL_told_12 : decode cL_told 12 = .ok (.astore_n 3, 1) := by decide +kernel
theorem dL_told_13 : decode cL_told 13 = .ok (.iconst 1, 1) := by decide +kernel
theorem dL_told_14 : decode cL_told 14 = .ok (.ireturn, 1) := by decide +kernel
theorem dL_told_15 : decode cL_told 15 = .ok (.iconst 0, 1) := by decide +kernel
theorem dL_told_16 : decode cL_told 16 = .ok (.ireturn, 1) := by decide +kernel
def fL_told (x0 : Nat) (x1 : Int32) (x2 : Nat) (v : zV) : Option (Int32 × zV) := zcatch (fX9_told x0 x1 v) x2 none (some 1)
set_option maxRecDepth 4000 in
theorem kL_told (l : Launch) (G : zG) (x0 : Nat) (t0 : zty G x0 1 9) (x1 : Int32) (x2 : Nat) (t2 : zty G x2 2 2) (v : zV) (r : Int32) (w : zV) (hfl9 : l.stackTraces = false) (h : fL_told x0 x1 x2 v = some (r, w)) : zMetW l yL_told cL_told 4 (some .int) [((0 : Nat), (9 : Nat), (12 : Nat), (13 : Nat))] 8 165 1 6 [zr G x0, .int x1, zr G x2] G v (some (.int r)) w := by
  refine zMW_of (own := RL) (by decide) rfl (Nat.le_of_ble_eq_true rfl) (fun x hl F hr hk hcs htab => ?_)
  subst hl
  refine z_ls [(0, zr G x0), (1, .int x1), (2, zr G x2)] [0, 1, 2] rfl ?_
  refine z_aload_n F dL_told_0 rfl 2 rfl ?_
  refine z_iconst (y := (0 : Int32)) F dL_told_1 rfl ?_
  refine z_aload_n F dL_told_2 rfl 0 rfl ?_
  refine z_iload_n F dL_told_3 rfl 1 rfl ?_
  rcases zcatch_ex h with ⟨a1, v1, hq, hin, rfl, rfl⟩ | ⟨a1, hq, he⟩ | ⟨c1, a1, hq, he⟩
  · have hM9 := kX9_told x.2.1 G x0 t0 x1 v 0 a1 v1 hfl9 hq
    refine z_xcall0 F [.int x1] [.int (0 : Int32), zr G x2] hM9 mI_X9_told (c := 9) rfl t0 wM_L_21 mi_X9_told sl_X9_told dL_told_4 rfl ⟨Nat.le_of_ble_eq_true rfl, Nat.le_of_ble_eq_true rfl⟩ rfl (Nat.le_of_ble_eq_true rfl) ⟨Nat.le_trans (Nat.le_of_ble_eq_true rfl) hcs.1, Nat.le_trans (Nat.le_of_ble_eq_true rfl) hcs.2⟩ ?_
    refine z_id (st := .int a1 :: [.int (0 : Int32), zr G x2]) ?_
    refine z_i2l F dL_told_7 ?_
    refine z_last F t2 dL_told_8 hin ?_
    refine z_goto F 15 dL_told_9 rfl ?_
    refine z_iconst (y := (0 : Int32)) F dL_told_15 rfl ?_
    exact z_reti F hr hk dL_told_16
  · cases he
  · cases he
    have hM9 := kX9_told x.2.1 G x0 t0 x1 v (c1 + 2) a1 w hfl9 hq
    refine z_xcallC F (E := "java/lang/IllegalArgumentException") (cd := c1 + 1) [] ⟨0, 9, 12, 13⟩ [] htab (zEx2 c1) (fun z hz => absurd hz List.not_mem_nil) (by decide) (by decide) zck_L_13 zcc_A [.int x1] [.int (0 : Int32), zr G x2] hM9 mI_X9_told (c := 9) rfl t0 wM_L_21 mi_X9_told sl_X9_told dL_told_4 rfl ⟨Nat.le_of_ble_eq_true rfl, Nat.le_of_ble_eq_true rfl⟩ rfl (Nat.le_of_ble_eq_true rfl) ⟨Nat.le_trans (Nat.le_of_ble_eq_true rfl) hcs.1, Nat.le_trans (Nat.le_of_ble_eq_true rfl) hcs.2⟩ (fun q => ?_)
    refine z_astore_n F [(3, .ref q), (0, zr G x0), (1, .int x1), (2, zr G x2)] dL_told_12 rfl (Nat.le_of_ble_eq_true rfl) rfl ?_
    refine z_iconst (y := (1 : Int32)) F dL_told_13 rfl ?_
    exact z_reti F hr hk dL_told_14

set_option maxRecDepth 20000 in
theorem kw_L_man : Cond.codeWith yL_man cL_man 5 (some .int) [((0 : Nat), (10 : Nat), (13 : Nat), (28 : Nat)), ((0 : Nat), (10 : Nat), (17 : Nat), (13 : Nat))] ∈ zTbl := zTbl_of (zin_5 (List.mem_of_getElem? (i := 70) rfl)) rfl
theorem dL_man_0 : decode cL_man 0 = .ok (.aload_n 3, 1) := by decide +kernel
theorem dL_man_1 : decode cL_man 1 = .ok (.iconst 0, 1) := by decide +kernel
theorem dL_man_2 : decode cL_man 2 = .ok (.aload_n 0, 1) := by decide +kernel
theorem dL_man_3 : decode cL_man 3 = .ok (.iload_n 1, 1) := by decide +kernel
theorem dL_man_4 : decode cL_man 4 = .ok (.iload_n 2, 1) := by decide +kernel
theorem dL_man_5 : decode cL_man 5 = .ok (.invokevirtual 24, 3) := by decide +kernel
theorem dL_man_8 : decode cL_man 8 = .ok (.i2l, 1) := by decide +kernel
theorem dL_man_9 : decode cL_man 9 = .ok (.lastore, 1) := by decide +kernel
theorem dL_man_10 : decode cL_man 10 = .ok (.goto 11, 3) := by decide +kernel
theorem dL_man_13 : decode cL_man 13 = .ok (.astore 4, 2) := by decide +kernel
theorem dL_man_15 : decode cL_man 15 = .ok (.iconst 1, 1) := by decide +kernel
theorem dL_man_16 : decode cL_man 16 = .ok (.ireturn, 1) := by decide +kernel
theorem dL_man_17 : decode cL_man 17 = .ok (.astore 4, 2) := by decide +kernel
theorem dL_man_19 : decode cL_man 19 = .ok (.iconst 2, 1) := by decide +kernel
theorem dL_man_20 : decode cL_man 20 = .ok (.ireturn, 1) := by decide +kernel
theorem dL_man_21 : decode cL_man 21 = .ok (.iconst 0, 1) := by decide +kernel
theorem dL_man_22 : decode cL_man 22 = .ok (.ireturn, 1) := by decide +kernel
def fL_man (x0 : Nat) (x1 : Int32) (x2 : Int32) (x3 : Nat) (v : zV) : Option (Int32 × zV) := zcatch (fX9_man x0 x1 x2 v) x3 (some 1) (some 2)
set_option maxRecDepth 4000 in
theorem kL_man (l : Launch) (G : zG) (x0 : Nat) (t0 : zty G x0 1 9) (x1 : Int32) (x2 : Int32) (x3 : Nat) (t3 : zty G x3 2 2) (v : zV) (r : Int32) (w : zV) (hfl9 : l.stackTraces = false) (h : fL_man x0 x1 x2 x3 v = some (r, w)) : zMetW l yL_man cL_man 5 (some .int) [((0 : Nat), (10 : Nat), (13 : Nat), (28 : Nat)), ((0 : Nat), (10 : Nat), (17 : Nat), (13 : Nat))] 8 153 2 12 [zr G x0, .int x1, .int x2, zr G x3] G v (some (.int r)) w := by
  refine zMW_of (own := RL) (by decide) rfl (Nat.le_of_ble_eq_true rfl) (fun x hl F hr hk hcs htab => ?_)
  subst hl
  refine z_ls [(0, zr G x0), (1, .int x1), (2, .int x2), (3, zr G x3)] [0, 1, 2, 3] rfl ?_
  refine z_aload_n F dL_man_0 rfl 3 rfl ?_
  refine z_iconst (y := (0 : Int32)) F dL_man_1 rfl ?_
  refine z_aload_n F dL_man_2 rfl 0 rfl ?_
  refine z_iload_n F dL_man_3 rfl 1 rfl ?_
  refine z_iload_n F dL_man_4 rfl 2 rfl ?_
  rcases zcatch_ex h with ⟨a1, v1, hq, hin, rfl, rfl⟩ | ⟨a1, hq, he⟩ | ⟨c1, a1, hq, he⟩
  · have hM9 := kX9_man x.2.1 G x0 t0 x1 x2 v 0 a1 v1 hfl9 hq
    refine z_xcall0 F [.int x1, .int x2] [.int (0 : Int32), zr G x3] hM9 mI_X9_man (c := 9) rfl t0 wM_L_24 mi_X9_man sl_X9_man dL_man_5 rfl ⟨Nat.le_of_ble_eq_true rfl, Nat.le_of_ble_eq_true rfl⟩ rfl (Nat.le_of_ble_eq_true rfl) ⟨Nat.le_trans (Nat.le_of_ble_eq_true rfl) hcs.1, Nat.le_trans (Nat.le_of_ble_eq_true rfl) hcs.2⟩ ?_
    refine z_id (st := .int a1 :: [.int (0 : Int32), zr G x3]) ?_
    refine z_i2l F dL_man_8 ?_
    refine z_last F t3 dL_man_9 hin ?_
    refine z_goto F 21 dL_man_10 rfl ?_
    refine z_iconst (y := (0 : Int32)) F dL_man_21 rfl ?_
    exact z_reti F hr hk dL_man_22
  · cases he
    have hM9 := kX9_man x.2.1 G x0 t0 x1 x2 v 1 a1 w hfl9 hq
    refine z_xcallC F (E := "java/util/NoSuchElementException") (cd := 0) [] ⟨0, 10, 13, 28⟩ [⟨0, 10, 17, 13⟩] htab rfl (fun z hz => absurd hz List.not_mem_nil) (by decide) (by decide) zck_L_28 zcc_N [.int x1, .int x2] [.int (0 : Int32), zr G x3] hM9 mI_X9_man (c := 9) rfl t0 wM_L_24 mi_X9_man sl_X9_man dL_man_5 rfl ⟨Nat.le_of_ble_eq_true rfl, Nat.le_of_ble_eq_true rfl⟩ rfl (Nat.le_of_ble_eq_true rfl) ⟨Nat.le_trans (Nat.le_of_ble_eq_true rfl) hcs.1, Nat.le_trans (Nat.le_of_ble_eq_true rfl) hcs.2⟩ (fun q => ?_)
    refine z_astore (n := 0) F [(4, .ref q), (0, zr G x0), (1, .int x1), (2, .int x2), (3, zr G x3)] dL_man_13 (Nat.le_of_ble_eq_true rfl) rfl ?_
    refine z_iconst (y := (1 : Int32)) F dL_man_15 rfl ?_
    exact z_reti F hr hk dL_man_16
  · cases he
    have hM9 := kX9_man x.2.1 G x0 t0 x1 x2 v (c1 + 2) a1 w hfl9 hq
    refine z_xcallC F (E := "java/lang/IllegalArgumentException") (cd := c1 + 1) [⟨0, 10, 13, 28⟩] ⟨0, 10, 17, 13⟩ [] htab (zEx2 c1) (fun z hz => by
      rw [List.mem_singleton] at hz
      subst hz
      exact ⟨by decide, "java/util/NoSuchElementException", zck_L_28, z_nc F.2.2.2.2.2.2.2.2⟩) (by decide) (by decide) zck_L_13 zcc_A [.int x1, .int x2] [.int (0 : Int32), zr G x3] hM9 mI_X9_man (c := 9) rfl t0 wM_L_24 mi_X9_man sl_X9_man dL_man_5 rfl ⟨Nat.le_of_ble_eq_true rfl, Nat.le_of_ble_eq_true rfl⟩ rfl (Nat.le_of_ble_eq_true rfl) ⟨Nat.le_trans (Nat.le_of_ble_eq_true rfl) hcs.1, Nat.le_trans (Nat.le_of_ble_eq_true rfl) hcs.2⟩ (fun q => ?_)
    refine z_astore (n := 0) F [(4, .ref q), (0, zr G x0), (1, .int x1), (2, .int x2), (3, zr G x3)] dL_man_17 (Nat.le_of_ble_eq_true rfl) rfl ?_
    refine z_iconst (y := (2 : Int32)) F dL_man_19 rfl ?_
    exact z_reti F hr hk dL_man_20

set_option maxRecDepth 20000 in
theorem kw_L_sides : Cond.codeWith yL_sides cL_sides 4 (some .int) [((0 : Nat), (9 : Nat), (12 : Nat), (28 : Nat))] ∈ zTbl := zTbl_of (zin_5 (List.mem_of_getElem? (i := 99) rfl)) rfl
theorem dL_sides_0 : decode cL_sides 0 = .ok (.aload_n 2, 1) := by decide +kernel
theorem dL_sides_1 : decode cL_sides 1 = .ok (.iconst 0, 1) := by decide +kernel
theorem dL_sides_2 : decode cL_sides 2 = .ok (.aload_n 0, 1) := by decide +kernel
theorem dL_sides_3 : decode cL_sides 3 = .ok (.iload_n 1, 1) := by decide +kernel
theorem dL_sides_4 : decode cL_sides 4 = .ok (.invokevirtual 30, 3) := by decide +kernel
theorem dL_sides_7 : decode cL_sides 7 = .ok (.i2l, 1) := by decide +kernel
theorem dL_sides_8 : decode cL_sides 8 = .ok (.lastore, 1) := by decide +kernel
theorem dL_sides_9 : decode cL_sides 9 = .ok (.goto 6, 3) := by decide +kernel
theorem dL_sides_12 : decode cL_sides 12 = .ok (.astore_n 3, 1) := by decide +kernel
theorem dL_sides_13 : decode cL_sides 13 = .ok (.iconst 1, 1) := by decide +kernel
theorem dL_sides_14 : decode cL_sides 14 = .ok (.ireturn, 1) := by decide +kernel
theorem dL_sides_15 : decode cL_sides 15 = .ok (.iconst 0, 1) := by decide +kernel
theorem dL_sides_16 : decode cL_sides 16 = .ok (.ireturn, 1) := by decide +kernel
def fL_sides (x0 : Nat) (x1 : Int32) (x2 : Nat) (v : zV) : Option (Int32 × zV) := zcatch (fX9_sides x0 x1 v) x2 (some 1) none
set_option maxRecDepth 4000 in
theorem kL_sides (l : Launch) (G : zG) (x0 : Nat) (t0 : zty G x0 1 9) (x1 : Int32) (x2 : Nat) (t2 : zty G x2 2 2) (v : zV) (r : Int32) (w : zV) (hfl9 : l.stackTraces = false) (h : fL_sides x0 x1 x2 v = some (r, w)) : zMetW l yL_sides cL_sides 4 (some .int) [((0 : Nat), (9 : Nat), (12 : Nat), (28 : Nat))] 8 152 1 6 [zr G x0, .int x1, zr G x2] G v (some (.int r)) w := by
  refine zMW_of (own := RL) (by decide) rfl (Nat.le_of_ble_eq_true rfl) (fun x hl F hr hk hcs htab => ?_)
  subst hl
  refine z_ls [(0, zr G x0), (1, .int x1), (2, zr G x2)] [0, 1, 2] rfl ?_
  refine z_aload_n F dL_sides_0 rfl 2 rfl ?_
  refine z_iconst (y := (0 : Int32)) F dL_sides_1 rfl ?_
  refine z_aload_n F dL_sides_2 rfl 0 rfl ?_
  refine z_iload_n F dL_sides_3 rfl 1 rfl ?_
  rcases zcatch_ex h with ⟨a1, v1, hq, hin, rfl, rfl⟩ | ⟨a1, hq, he⟩ | ⟨c1, a1, hq, he⟩
  · have hM9 := kX9_sides x.2.1 G x0 t0 x1 v 0 a1 v1 hfl9 hq
    refine z_xcall0 F [.int x1] [.int (0 : Int32), zr G x2] hM9 mI_X9_sides (c := 9) rfl t0 wM_L_30 mi_X9_sides sl_X9_sides dL_sides_4 rfl ⟨Nat.le_of_ble_eq_true rfl, Nat.le_of_ble_eq_true rfl⟩ rfl (Nat.le_of_ble_eq_true rfl) ⟨Nat.le_trans (Nat.le_of_ble_eq_true rfl) hcs.1, Nat.le_trans (Nat.le_of_ble_eq_true rfl) hcs.2⟩ ?_
    refine z_id (st := .int a1 :: [.int (0 : Int32), zr G x2]) ?_
    refine z_i2l F dL_sides_7 ?_
    refine z_last F t2 dL_sides_8 hin ?_
    refine z_goto F 15 dL_sides_9 rfl ?_
    refine z_iconst (y := (0 : Int32)) F dL_sides_15 rfl ?_
    exact z_reti F hr hk dL_sides_16
  · cases he
    have hM9 := kX9_sides x.2.1 G x0 t0 x1 v 1 a1 w hfl9 hq
    refine z_xcallC F (E := "java/util/NoSuchElementException") (cd := 0) [] ⟨0, 9, 12, 28⟩ [] htab rfl (fun z hz => absurd hz List.not_mem_nil) (by decide) (by decide) zck_L_28 zcc_N [.int x1] [.int (0 : Int32), zr G x2] hM9 mI_X9_sides (c := 9) rfl t0 wM_L_30 mi_X9_sides sl_X9_sides dL_sides_4 rfl ⟨Nat.le_of_ble_eq_true rfl, Nat.le_of_ble_eq_true rfl⟩ rfl (Nat.le_of_ble_eq_true rfl) ⟨Nat.le_trans (Nat.le_of_ble_eq_true rfl) hcs.1, Nat.le_trans (Nat.le_of_ble_eq_true rfl) hcs.2⟩ (fun q => ?_)
    refine z_astore_n F [(3, .ref q), (0, zr G x0), (1, .int x1), (2, zr G x2)] dL_sides_12 rfl (Nat.le_of_ble_eq_true rfl) rfl ?_
    refine z_iconst (y := (1 : Int32)) F dL_sides_13 rfl ?_
    exact z_reti F hr hk dL_sides_14
  · cases he

set_option maxRecDepth 20000 in
theorem kw_L_believes : Cond.codeWith yL_believes cL_believes 5 (some .int) [((0 : Nat), (10 : Nat), (13 : Nat), (28 : Nat))] ∈ zTbl := zTbl_of (zin_5 (List.mem_of_getElem? (i := 110) rfl)) rfl
theorem dL_believes_0 : decode cL_believes 0 = .ok (.aload_n 3, 1) := by decide +kernel
theorem dL_believes_1 : decode cL_believes 1 = .ok (.iconst 0, 1) := by decide +kernel
theorem dL_believes_2 : decode cL_believes 2 = .ok (.aload_n 0, 1) := by decide +kernel
theorem dL_believes_3 : decode cL_believes 3 = .ok (.iload_n 1, 1) := by decide +kernel
theorem dL_believes_4 : decode cL_believes 4 = .ok (.iload_n 2, 1) := by decide +kernel
theorem dL_believes_5 : decode cL_believes 5 = .ok (.invokevirtual 33, 3) := by decide +kernel
theorem dL_believes_8 : decode cL_believes 8 = .ok (.i2l, 1) := by decide +kernel
theorem dL_believes_9 : decode cL_believes 9 = .ok (.lastore, 1) := by decide +kernel
theorem dL_believes_10 : decode cL_believes 10 = .ok (.goto 7, 3) := by decide +kernel
theorem dL_believes_13 : decode cL_believes 13 = .ok (.astore 4, 2) := by decide +kernel
theorem dL_believes_15 : decode cL_believes 15 = .ok (.iconst 1, 1) := by decide +kernel
theorem dL_believes_16 : decode cL_believes 16 = .ok (.ireturn, 1) := by decide +kernel
theorem dL_believes_17 : decode cL_believes 17 = .ok (.iconst 0, 1) := by decide +kernel
theorem dL_believes_18 : decode cL_believes 18 = .ok (.ireturn, 1) := by decide +kernel
def fL_believes (x0 : Nat) (x1 : Int32) (x2 : Int32) (x3 : Nat) (v : zV) : Option (Int32 × zV) := zcatch (fX9_believes x0 x1 x2 v) x3 (some 1) none
set_option maxRecDepth 4000 in
theorem kL_believes (l : Launch) (G : zG) (x0 : Nat) (t0 : zty G x0 1 9) (x1 : Int32) (x2 : Int32) (x3 : Nat) (t3 : zty G x3 2 2) (v : zV) (r : Int32) (w : zV) (hfl9 : l.stackTraces = false) (h : fL_believes x0 x1 x2 x3 v = some (r, w)) : zMetW l yL_believes cL_believes 5 (some .int) [((0 : Nat), (10 : Nat), (13 : Nat), (28 : Nat))] 8 153 2 12 [zr G x0, .int x1, .int x2, zr G x3] G v (some (.int r)) w := by
  refine zMW_of (own := RL) (by decide) rfl (Nat.le_of_ble_eq_true rfl) (fun x hl F hr hk hcs htab => ?_)
  subst hl
  refine z_ls [(0, zr G x0), (1, .int x1), (2, .int x2), (3, zr G x3)] [0, 1, 2, 3] rfl ?_
  refine z_aload_n F dL_believes_0 rfl 3 rfl ?_
  refine z_iconst (y := (0 : Int32)) F dL_believes_1 rfl ?_
  refine z_aload_n F dL_believes_2 rfl 0 rfl ?_
  refine z_iload_n F dL_believes_3 rfl 1 rfl ?_
  refine z_iload_n F dL_believes_4 rfl 2 rfl ?_
  rcases zcatch_ex h with ⟨a1, v1, hq, hin, rfl, rfl⟩ | ⟨a1, hq, he⟩ | ⟨c1, a1, hq, he⟩
  · have hM9 := kX9_believes x.2.1 G x0 t0 x1 x2 v 0 a1 v1 hfl9 hq
    refine z_xcall0 F [.int x1, .int x2] [.int (0 : Int32), zr G x3] hM9 mI_X9_believes (c := 9) rfl t0 wM_L_33 mi_X9_believes sl_X9_believes dL_believes_5 rfl ⟨Nat.le_of_ble_eq_true rfl, Nat.le_of_ble_eq_true rfl⟩ rfl (Nat.le_of_ble_eq_true rfl) ⟨Nat.le_trans (Nat.le_of_ble_eq_true rfl) hcs.1, Nat.le_trans (Nat.le_of_ble_eq_true rfl) hcs.2⟩ ?_
    refine z_id (st := .int a1 :: [.int (0 : Int32), zr G x3]) ?_
    refine z_i2l F dL_believes_8 ?_
    refine z_last F t3 dL_believes_9 hin ?_
    refine z_goto F 17 dL_believes_10 rfl ?_
    refine z_iconst (y := (0 : Int32)) F dL_believes_17 rfl ?_
    exact z_reti F hr hk dL_believes_18
  · cases he
    have hM9 := kX9_believes x.2.1 G x0 t0 x1 x2 v 1 a1 w hfl9 hq
    refine z_xcallC F (E := "java/util/NoSuchElementException") (cd := 0) [] ⟨0, 10, 13, 28⟩ [] htab rfl (fun z hz => absurd hz List.not_mem_nil) (by decide) (by decide) zck_L_28 zcc_N [.int x1, .int x2] [.int (0 : Int32), zr G x3] hM9 mI_X9_believes (c := 9) rfl t0 wM_L_33 mi_X9_believes sl_X9_believes dL_believes_5 rfl ⟨Nat.le_of_ble_eq_true rfl, Nat.le_of_ble_eq_true rfl⟩ rfl (Nat.le_of_ble_eq_true rfl) ⟨Nat.le_trans (Nat.le_of_ble_eq_true rfl) hcs.1, Nat.le_trans (Nat.le_of_ble_eq_true rfl) hcs.2⟩ (fun q => ?_)
    refine z_astore (n := 0) F [(4, .ref q), (0, zr G x0), (1, .int x1), (2, .int x2), (3, zr G x3)] dL_believes_13 (Nat.le_of_ble_eq_true rfl) rfl ?_
    refine z_iconst (y := (1 : Int32)) F dL_believes_15 rfl ?_
    exact z_reti F hr hk dL_believes_16
  · cases he

set_option maxRecDepth 20000 in
theorem kw_L_chair : Cond.codeWith yL_chair cL_chair 4 (some .int) [((0 : Nat), (9 : Nat), (12 : Nat), (13 : Nat))] ∈ zTbl := zTbl_of (zin_5 (List.mem_of_getElem? (i := 121) rfl)) rfl
theorem dL_chair_0 : decode cL_chair 0 = .ok (.aload_n 2, 1) := by decide +kernel
theorem dL_chair_1 : decode cL_chair 1 = .ok (.iconst 0, 1) := by decide +kernel
theorem dL_chair_2 : decode cL_chair 2 = .ok (.aload_n 0, 1) := by decide +kernel
theorem dL_chair_3 : decode cL_chair 3 = .ok (.iload_n 1, 1) := by decide +kernel
theorem dL_chair_4 : decode cL_chair 4 = .ok (.invokevirtual 36, 3) := by decide +kernel
theorem dL_chair_7 : decode cL_chair 7 = .ok (.i2l, 1) := by decide +kernel
theorem dL_chair_8 : decode cL_chair 8 = .ok (.lastore, 1) := by decide +kernel
theorem dL_chair_9 : decode cL_chair 9 = .ok (.goto 6, 3) := by decide +kernel
theorem dL_chair_12 : decode cL_chair 12 = .ok (.astore_n 3, 1) := by decide +kernel
theorem dL_chair_13 : decode cL_chair 13 = .ok (.iconst 1, 1) := by decide +kernel
theorem dL_chair_14 : decode cL_chair 14 = .ok (.ireturn, 1) := by decide +kernel
theorem dL_chair_15 : decode cL_chair 15 = .ok (.iconst 0, 1) := by decide +kernel
theorem dL_chair_16 : decode cL_chair 16 = .ok (.ireturn, 1) := by decide +kernel
def fL_chair (x0 : Nat) (x1 : Int32) (x2 : Nat) (v : zV) : Option (Int32 × zV) := zcatch (fX9_chair x0 x1 v) x2 none (some 1)
set_option maxRecDepth 4000 in
theorem kL_chair (l : Launch) (G : zG) (x0 : Nat) (t0 : zty G x0 1 9) (x1 : Int32) (x2 : Nat) (t2 : zty G x2 2 2) (v : zV) (r : Int32) (w : zV) (hfl9 : l.stackTraces = false) (h : fL_chair x0 x1 x2 v = some (r, w)) : zMetW l yL_chair cL_chair 4 (some .int) [((0 : Nat), (9 : Nat), (12 : Nat), (13 : Nat))] 8 152 1 6 [zr G x0, .int x1, zr G x2] G v (some (.int r)) w := by
  refine zMW_of (own := RL) (by decide) rfl (Nat.le_of_ble_eq_true rfl) (fun x hl F hr hk hcs htab => ?_)
  subst hl
  refine z_ls [(0, zr G x0), (1, .int x1), (2, zr G x2)] [0, 1, 2] rfl ?_
  refine z_aload_n F dL_chair_0 rfl 2 rfl ?_
  refine z_iconst (y := (0 : Int32)) F dL_chair_1 rfl ?_
  refine z_aload_n F dL_chair_2 rfl 0 rfl ?_
  refine z_iload_n F dL_chair_3 rfl 1 rfl ?_
  rcases zcatch_ex h with ⟨a1, v1, hq, hin, rfl, rfl⟩ | ⟨a1, hq, he⟩ | ⟨c1, a1, hq, he⟩
  · have hM9 := kX9_chair x.2.1 G x0 t0 x1 v 0 a1 v1 hfl9 hq
    refine z_xcall0 F [.int x1] [.int (0 : Int32), zr G x2] hM9 mI_X9_chair (c := 9) rfl t0 wM_L_36 mi_X9_chair sl_X9_chair dL_chair_4 rfl ⟨Nat.le_of_ble_eq_true rfl, Nat.le_of_ble_eq_true rfl⟩ rfl (Nat.le_of_ble_eq_true rfl) ⟨Nat.le_trans (Nat.le_of_ble_eq_true rfl) hcs.1, Nat.le_trans (Nat.le_of_ble_eq_true rfl) hcs.2⟩ ?_
    refine z_id (st := .int a1 :: [.int (0 : Int32), zr G x2]) ?_
    refine z_i2l F dL_chair_7 ?_
    refine z_last F t2 dL_chair_8 hin ?_
    refine z_goto F 15 dL_chair_9 rfl ?_
    refine z_iconst (y := (0 : Int32)) F dL_chair_15 rfl ?_
    exact z_reti F hr hk dL_chair_16
  · cases he
  · cases he
    have hM9 := kX9_chair x.2.1 G x0 t0 x1 v (c1 + 2) a1 w hfl9 hq
    refine z_xcallC F (E := "java/lang/IllegalArgumentException") (cd := c1 + 1) [] ⟨0, 9, 12, 13⟩ [] htab (zEx2 c1) (fun z hz => absurd hz List.not_mem_nil) (by decide) (by decide) zck_L_13 zcc_A [.int x1] [.int (0 : Int32), zr G x2] hM9 mI_X9_chair (c := 9) rfl t0 wM_L_36 mi_X9_chair sl_X9_chair dL_chair_4 rfl ⟨Nat.le_of_ble_eq_true rfl, Nat.le_of_ble_eq_true rfl⟩ rfl (Nat.le_of_ble_eq_true rfl) ⟨Nat.le_trans (Nat.le_of_ble_eq_true rfl) hcs.1, Nat.le_trans (Nat.le_of_ble_eq_true rfl) hcs.2⟩ (fun q => ?_)
    refine z_astore_n F [(3, .ref q), (0, zr G x0), (1, .int x1), (2, zr G x2)] dL_chair_12 rfl (Nat.le_of_ble_eq_true rfl) rfl ?_
    refine z_iconst (y := (1 : Int32)) F dL_chair_13 rfl ?_
    exact z_reti F hr hk dL_chair_14

set_option maxRecDepth 20000 in
theorem kw_L_differs : Cond.codeWith yL_differs cL_differs 5 (some .int) [((0 : Nat), (10 : Nat), (13 : Nat), (28 : Nat))] ∈ zTbl := zTbl_of (zin_5 (List.mem_of_getElem? (i := 129) rfl)) rfl
theorem dL_differs_0 : decode cL_differs 0 = .ok (.aload_n 3, 1) := by decide +kernel
theorem dL_differs_1 : decode cL_differs 1 = .ok (.iconst 0, 1) := by decide +kernel
theorem dL_differs_2 : decode cL_differs 2 = .ok (.aload_n 0, 1) := by decide +kernel
theorem dL_differs_3 : decode cL_differs 3 = .ok (.iload_n 1, 1) := by decide +kernel
theorem dL_differs_4 : decode cL_differs 4 = .ok (.iload_n 2, 1) := by decide +kernel
theorem dL_differs_5 : decode cL_differs 5 = .ok (.invokevirtual 39, 3) := by decide +kernel
theorem dL_differs_8 : decode cL_differs 8 = .ok (.i2l, 1) := by decide +kernel
theorem dL_differs_9 : decode cL_differs 9 = .ok (.lastore, 1) := by decide +kernel
theorem dL_differs_10 : decode cL_differs 10 = .ok (.goto 7, 3) := by decide +kernel
theorem dL_differs_13 : decode cL_differs 13 = .ok (.astore 4, 2) := by decide +kernel
theorem dL_differs_15 : decode cL_differs 15 = .ok (.iconst 1, 1) := by decide +kernel
theorem dL_differs_16 : decode cL_differs 16 = .ok (.ireturn, 1) := by decide +kernel
theorem dL_differs_17 : decode cL_differs 17 = .ok (.iconst 0, 1) := by decide +kernel
theorem dL_differs_18 : decode cL_differs 18 = .ok (.ireturn, 1) := by decide +kernel
def fL_differs (x0 : Nat) (x1 : Int32) (x2 : Int32) (x3 : Nat) (v : zV) : Option (Int32 × zV) := zcatch (fX9_differs x0 x1 x2 v) x3 (some 1) none
set_option maxRecDepth 4000 in
theorem kL_differs (l : Launch) (G : zG) (x0 : Nat) (t0 : zty G x0 1 9) (x1 : Int32) (x2 : Int32) (x3 : Nat) (t3 : zty G x3 2 2) (v : zV) (r : Int32) (w : zV) (hfl9 : l.stackTraces = false) (h : fL_differs x0 x1 x2 x3 v = some (r, w)) : zMetW l yL_differs cL_differs 5 (some .int) [((0 : Nat), (10 : Nat), (13 : Nat), (28 : Nat))] 8 153 2 12 [zr G x0, .int x1, .int x2, zr G x3] G v (some (.int r)) w := by
  refine zMW_of (own := RL) (by decide) rfl (Nat.le_of_ble_eq_true rfl) (fun x hl F hr hk hcs htab => ?_)
  subst hl
  refine z_ls [(0, zr G x0), (1, .int x1), (2, .int x2), (3, zr G x3)] [0, 1, 2, 3] rfl ?_
  refine z_aload_n F dL_differs_0 rfl 3 rfl ?_
  refine z_iconst (y := (0 : Int32)) F dL_differs_1 rfl ?_
  refine z_aload_n F dL_differs_2 rfl 0 rfl ?_
  refine z_iload_n F dL_differs_3 rfl 1 rfl ?_
  refine z_iload_n F dL_differs_4 rfl 2 rfl ?_
  rcases zcatch_ex h with ⟨a1, v1, hq, hin, rfl, rfl⟩ | ⟨a1, hq, he⟩ | ⟨c1, a1, hq, he⟩
  · have hM9 := kX9_differs x.2.1 G x0 t0 x1 x2 v 0 a1 v1 hfl9 hq
    refine z_xcall0 F [.int x1, .int x2] [.int (0 : Int32), zr G x3] hM9 mI_X9_differs (c := 9) rfl t0 wM_L_39 mi_X9_differs sl_X9_differs dL_differs_5 rfl ⟨Nat.le_of_ble_eq_true rfl, Nat.le_of_ble_eq_true rfl⟩ rfl (Nat.le_of_ble_eq_true rfl) ⟨Nat.le_trans (Nat.le_of_ble_eq_true rfl) hcs.1, Nat.le_trans (Nat.le_of_ble_eq_true rfl) hcs.2⟩ ?_
    refine z_id (st := .int a1 :: [.int (0 : Int32), zr G x3]) ?_
    refine z_i2l F dL_differs_8 ?_
    refine z_last F t3 dL_differs_9 hin ?_
    refine z_goto F 17 dL_differs_10 rfl ?_
    refine z_iconst (y := (0 : Int32)) F dL_differs_17 rfl ?_
    exact z_reti F hr hk dL_differs_18
  · cases he
    have hM9 := kX9_differs x.2.1 G x0 t0 x1 x2 v 1 a1 w hfl9 hq
    refine z_xcallC F (E := "java/util/NoSuchElementException") (cd := 0) [] ⟨0, 10, 13, 28⟩ [] htab rfl (fun z hz => absurd hz List.not_mem_nil) (by decide) (by decide) zck_L_28 zcc_N [.int x1, .int x2] [.int (0 : Int32), zr G x3] hM9 mI_X9_differs (c := 9) rfl t0 wM_L_39 mi_X9_differs sl_X9_differs dL_differs_5 rfl ⟨Nat.le_of_ble_eq_true rfl, Nat.le_of_ble_eq_true rfl⟩ rfl (Nat.le_of_ble_eq_true rfl) ⟨Nat.le_trans (Nat.le_of_ble_eq_true rfl) hcs.1, Nat.le_trans (Nat.le_of_ble_eq_true rfl) hcs.2⟩ (fun q => ?_)
    refine z_astore (n := 0) F [(4, .ref q), (0, zr G x0), (1, .int x1), (2, .int x2), (3, zr G x3)] dL_differs_13 (Nat.le_of_ble_eq_true rfl) rfl ?_
    refine z_iconst (y := (1 : Int32)) F dL_differs_15 rfl ?_
    exact z_reti F hr hk dL_differs_16
  · cases he

set_option maxRecDepth 20000 in
theorem kw_L_score : Cond.codeWith yL_score cL_score 4 (some .int) [((0 : Nat), (9 : Nat), (12 : Nat), (28 : Nat))] ∈ zTbl := zTbl_of (zin_5 (List.mem_of_getElem? (i := 137) rfl)) rfl
theorem dL_score_0 : decode cL_score 0 = .ok (.aload_n 2, 1) := by decide +kernel
theorem dL_score_1 : decode cL_score 1 = .ok (.iconst 0, 1) := by decide +kernel
theorem dL_score_2 : decode cL_score 2 = .ok (.aload_n 0, 1) := by decide +kernel
theorem dL_score_3 : decode cL_score 3 = .ok (.iload_n 1, 1) := by decide +kernel
theorem dL_score_4 : decode cL_score 4 = .ok (.invokevirtual 42, 3) := by decide +kernel
theorem dL_score_7 : decode cL_score 7 = .ok (.i2l, 1) := by decide +kernel
theorem dL_score_8 : decode cL_score 8 = .ok (.lastore, 1) := by decide +kernel
theorem dL_score_9 : decode cL_score 9 = .ok (.goto 6, 3) := by decide +kernel
theorem dL_score_12 : decode cL_score 12 = .ok (.astore_n 3, 1) := by decide +kernel
theorem dL_score_13 : decode cL_score 13 = .ok (.iconst 1, 1) := by decide +kernel
theorem dL_score_14 : decode cL_score 14 = .ok (.ireturn, 1) := by decide +kernel
theorem dL_score_15 : decode cL_score 15 = .ok (.iconst 0, 1) := by decide +kernel
theorem dL_score_16 : decode cL_score 16 = .ok (.ireturn, 1) := by decide +kernel
def fL_score (x0 : Nat) (x1 : Int32) (x2 : Nat) (v : zV) : Option (Int32 × zV) := zcatch (fX9_score x0 x1 v) x2 (some 1) none
set_option maxRecDepth 4000 in
theorem kL_score (l : Launch) (G : zG) (x0 : Nat) (t0 : zty G x0 1 9) (x1 : Int32) (x2 : Nat) (t2 : zty G x2 2 2) (v : zV) (r : Int32) (w : zV) (hfl9 : l.stackTraces = false) (h : fL_score x0 x1 x2 v = some (r, w)) : zMetW l yL_score cL_score 4 (some .int) [((0 : Nat), (9 : Nat), (12 : Nat), (28 : Nat))] 8 169 1 6 [zr G x0, .int x1, zr G x2] G v (some (.int r)) w := by
  refine zMW_of (own := RL) (by decide) rfl (Nat.le_of_ble_eq_true rfl) (fun x hl F hr hk hcs htab => ?_)
  subst hl
  refine z_ls [(0, zr G x0), (1, .int x1), (2, zr G x2)] [0, 1, 2] rfl ?_
  refine z_aload_n F dL_score_0 rfl 2 rfl ?_
  refine z_iconst (y := (0 : Int32)) F dL_score_1 rfl ?_
  refine z_aload_n F dL_score_2 rfl 0 rfl ?_
  refine z_iload_n F dL_score_3 rfl 1 rfl ?_
  rcases zcatch_ex h with ⟨a1, v1, hq, hin, rfl, rfl⟩ | ⟨a1, hq, he⟩ | ⟨c1, a1, hq, he⟩
  · have hM9 := kX9_score x.2.1 G x0 t0 x1 v 0 a1 v1 hfl9 hq
    refine z_xcall0 F [.int x1] [.int (0 : Int32), zr G x2] hM9 mI_X9_score (c := 9) rfl t0 wM_L_42 mi_X9_score sl_X9_score dL_score_4 rfl ⟨Nat.le_of_ble_eq_true rfl, Nat.le_of_ble_eq_true rfl⟩ rfl (Nat.le_of_ble_eq_true rfl) ⟨Nat.le_trans (Nat.le_of_ble_eq_true rfl) hcs.1, Nat.le_trans (Nat.le_of_ble_eq_true rfl) hcs.2⟩ ?_
    refine z_id (st := .int a1 :: [.int (0 : Int32), zr G x2]) ?_
    refine z_i2l F dL_score_7 ?_
    refine z_last F t2 dL_score_8 hin ?_
    refine z_goto F 15 dL_score_9 rfl ?_
    refine z_iconst (y := (0 : Int32)) F dL_score_15 rfl ?_
    exact z_reti F hr hk dL_score_16
  · cases he
    have hM9 := kX9_score x.2.1 G x0 t0 x1 v 1 a1 w hfl9 hq
    refine z_xcallC F (E := "java/util/NoSuchElementException") (cd := 0) [] ⟨0, 9, 12, 28⟩ [] htab rfl (fun z hz => absurd hz List.not_mem_nil) (by decide) (by decide) zck_L_28 zcc_N [.int x1] [.int (0 : Int32), zr G x2] hM9 mI_X9_score (c := 9) rfl t0 wM_L_42 mi_X9_score sl_X9_score dL_score_4 rfl ⟨Nat.le_of_ble_eq_true rfl, Nat.le_of_ble_eq_true rfl⟩ rfl (Nat.le_of_ble_eq_true rfl) ⟨Nat.le_trans (Nat.le_of_ble_eq_true rfl) hcs.1, Nat.le_trans (Nat.le_of_ble_eq_true rfl) hcs.2⟩ (fun q => ?_)
    refine z_astore_n F [(3, .ref q), (0, zr G x0), (1, .int x1), (2, zr G x2)] dL_score_12 rfl (Nat.le_of_ble_eq_true rfl) rfl ?_
    refine z_iconst (y := (1 : Int32)) F dL_score_13 rfl ?_
    exact z_reti F hr hk dL_score_14
  · cases he

set_option maxRecDepth 20000 in
theorem kw_L_years : Cond.codeWith yL_years cL_years 4 (some .int) [((0 : Nat), (9 : Nat), (12 : Nat), (13 : Nat))] ∈ zTbl := zTbl_of (zin_5 (List.mem_of_getElem? (i := 145) rfl)) rfl
theorem dL_years_0 : decode cL_years 0 = .ok (.aload_n 2, 1) := by decide +kernel
theorem dL_years_1 : decode cL_years 1 = .ok (.iconst 0, 1) := by decide +kernel
theorem dL_years_2 : decode cL_years 2 = .ok (.aload_n 0, 1) := by decide +kernel
theorem dL_years_3 : decode cL_years 3 = .ok (.iload_n 1, 1) := by decide +kernel
theorem dL_years_4 : decode cL_years 4 = .ok (.invokevirtual 45, 3) := by decide +kernel
theorem dL_years_7 : decode cL_years 7 = .ok (.i2l, 1) := by decide +kernel
theorem dL_years_8 : decode cL_years 8 = .ok (.lastore, 1) := by decide +kernel
theorem dL_years_9 : decode cL_years 9 = .ok (.goto 6, 3) := by decide +kernel
theorem dL_years_12 : decode cL_years 12 = .ok (.astore_n 3, 1) := by decide +kernel
theorem dL_years_13 : decode cL_years 13 = .ok (.iconst 1, 1) := by decide +kernel
theorem dL_years_14 : decode cL_years 14 = .ok (.ireturn, 1) := by decide +kernel
theorem dL_years_15 : decode cL_years 15 = .ok (.iconst 0, 1) := by decide +kernel
theorem dL_years_16 : decode cL_years 16 = .ok (.ireturn, 1) := by decide +kernel
def fL_years (x0 : Nat) (x1 : Int32) (x2 : Nat) (v : zV) : Option (Int32 × zV) := zcatch (fX9_years x0 x1 v) x2 none (some 1)
set_option maxRecDepth 4000 in
theorem kL_years (l : Launch) (G : zG) (x0 : Nat) (t0 : zty G x0 1 9) (x1 : Int32) (x2 : Nat) (t2 : zty G x2 2 2) (v : zV) (r : Int32) (w : zV) (hfl9 : l.stackTraces = false) (h : fL_years x0 x1 x2 v = some (r, w)) : zMetW l yL_years cL_years 4 (some .int) [((0 : Nat), (9 : Nat), (12 : Nat), (13 : Nat))] 8 236 1 6 [zr G x0, .int x1, zr G x2] G v (some (.int r)) w := by
  refine zMW_of (own := RL) (by decide) rfl (Nat.le_of_ble_eq_true rfl) (fun x hl F hr hk hcs htab => ?_)
  subst hl
  refine z_ls [(0, zr G x0), (1, .int x1), (2, zr G x2)] [0, 1, 2] rfl ?_
  refine z_aload_n F dL_years_0 rfl 2 rfl ?_
  refine z_iconst (y := (0 : Int32)) F dL_years_1 rfl ?_
  refine z_aload_n F dL_years_2 rfl 0 rfl ?_
  refine z_iload_n F dL_years_3 rfl 1 rfl ?_
  rcases zcatch_ex h with ⟨a1, v1, hq, hin, rfl, rfl⟩ | ⟨a1, hq, he⟩ | ⟨c1, a1, hq, he⟩
  · have hM9 := kX9_years x.2.1 G x0 t0 x1 v 0 a1 v1 hfl9 hq
    refine z_xcall0 F [.int x1] [.int (0 : Int32), zr G x2] hM9 mI_X9_years (c := 9) rfl t0 wM_L_45 mi_X9_years sl_X9_years dL_years_4 rfl ⟨Nat.le_of_ble_eq_true rfl, Nat.le_of_ble_eq_true rfl⟩ rfl (Nat.le_of_ble_eq_true rfl) ⟨Nat.le_trans (Nat.le_of_ble_eq_true rfl) hcs.1, Nat.le_trans (Nat.le_of_ble_eq_true rfl) hcs.2⟩ ?_
    refine z_id (st := .int a1 :: [.int (0 : Int32), zr G x2]) ?_
    refine z_i2l F dL_years_7 ?_
    refine z_last F t2 dL_years_8 hin ?_
    refine z_goto F 15 dL_years_9 rfl ?_
    refine z_iconst (y := (0 : Int32)) F dL_years_15 rfl ?_
    exact z_reti F hr hk dL_years_16
  · cases he
  · cases he
    have hM9 := kX9_years x.2.1 G x0 t0 x1 v (c1 + 2) a1 w hfl9 hq
    refine z_xcallC F (E := "java/lang/IllegalArgumentException") (cd := c1 + 1) [] ⟨0, 9, 12, 13⟩ [] htab (zEx2 c1) (fun z hz => absurd hz List.not_mem_nil) (by decide) (by decide) zck_L_13 zcc_A [.int x1] [.int (0 : Int32), zr G x2] hM9 mI_X9_years (c := 9) rfl t0 wM_L_45 mi_X9_years sl_X9_years dL_years_4 rfl ⟨Nat.le_of_ble_eq_true rfl, Nat.le_of_ble_eq_true rfl⟩ rfl (Nat.le_of_ble_eq_true rfl) ⟨Nat.le_trans (Nat.le_of_ble_eq_true rfl) hcs.1, Nat.le_trans (Nat.le_of_ble_eq_true rfl) hcs.2⟩ (fun q => ?_)
    refine z_astore_n F [(3, .ref q), (0, zr G x0), (1, .int x1), (2, zr G x2)] dL_years_12 rfl (Nat.le_of_ble_eq_true rfl) rfl ?_
    refine z_iconst (y := (1 : Int32)) F dL_years_13 rfl ?_
    exact z_reti F hr hk dL_years_14

set_option maxRecDepth 20000 in
theorem kw_L_undo : Cond.codeWith yL_undo cL_undo 4 (some .int) [((0 : Nat), (9 : Nat), (12 : Nat), (13 : Nat))] ∈ zTbl := zTbl_of (zin_5 (List.mem_of_getElem? (i := 153) rfl)) rfl
theorem dL_undo_0 : decode cL_undo 0 = .ok (.aload_n 2, 1) := by decide +kernel
theorem dL_undo_1 : decode cL_undo 1 = .ok (.iconst 0, 1) := by decide +kernel
theorem dL_undo_2 : decode cL_undo 2 = .ok (.aload_n 0, 1) := by decide +kernel
theorem dL_undo_3 : decode cL_undo 3 = .ok (.iload_n 1, 1) := by decide +kernel
theorem dL_undo_4 : decode cL_undo 4 = .ok (.invokevirtual 48, 3) := by decide +kernel
theorem dL_undo_7 : decode cL_undo 7 = .ok (.i2l, 1) := by decide +kernel
theorem dL_undo_8 : decode cL_undo 8 = .ok (.lastore, 1) := by decide +kernel
theorem dL_undo_9 : decode cL_undo 9 = .ok (.goto 6, 3) := by decide +kernel
theorem dL_undo_12 : decode cL_undo 12 = .ok (.astore_n 3, 1) := by decide +kernel
theorem dL_undo_13 : decode cL_undo 13 = .ok (.iconst 1, 1) := by decide +kernel
theorem dL_undo_14 : decode cL_undo 14 = .ok (.ireturn, 1) := by decide +kernel
theorem dL_undo_15 : decode cL_undo 15 = .ok (.iconst 0, 1) := by decide +kernel
theorem dL_undo_16 : decode cL_undo 16 = .ok (.ireturn, 1) := by decide +kernel
def fL_undo (x0 : Nat) (x1 : Int32) (x2 : Nat) (v : zV) : Option (Int32 × zV) := zcatch (fX9_undo x0 x1 v) x2 none (some 1)
set_option maxRecDepth 4000 in
theorem kL_undo (l : Launch) (G : zG) (x0 : Nat) (t0 : zty G x0 1 9) (x1 : Int32) (x2 : Nat) (t2 : zty G x2 2 2) (v : zV) (r : Int32) (w : zV) (hfl9 : l.stackTraces = false) (h : fL_undo x0 x1 x2 v = some (r, w)) : zMetW l yL_undo cL_undo 4 (some .int) [((0 : Nat), (9 : Nat), (12 : Nat), (13 : Nat))] 8 238 1 6 [zr G x0, .int x1, zr G x2] G v (some (.int r)) w := by
  refine zMW_of (own := RL) (by decide) rfl (Nat.le_of_ble_eq_true rfl) (fun x hl F hr hk hcs htab => ?_)
  subst hl
  refine z_ls [(0, zr G x0), (1, .int x1), (2, zr G x2)] [0, 1, 2] rfl ?_
  refine z_aload_n F dL_undo_0 rfl 2 rfl ?_
  refine z_iconst (y := (0 : Int32)) F dL_undo_1 rfl ?_
  refine z_aload_n F dL_undo_2 rfl 0 rfl ?_
  refine z_iload_n F dL_undo_3 rfl 1 rfl ?_
  rcases zcatch_ex h with ⟨a1, v1, hq, hin, rfl, rfl⟩ | ⟨a1, hq, he⟩ | ⟨c1, a1, hq, he⟩
  · have hM9 := kX9_undo x.2.1 G x0 t0 x1 v 0 a1 v1 hfl9 hq
    refine z_xcall0 F [.int x1] [.int (0 : Int32), zr G x2] hM9 mI_X9_undo (c := 9) rfl t0 wM_L_48 mi_X9_undo sl_X9_undo dL_undo_4 rfl ⟨Nat.le_of_ble_eq_true rfl, Nat.le_of_ble_eq_true rfl⟩ rfl (Nat.le_of_ble_eq_true rfl) ⟨Nat.le_trans (Nat.le_of_ble_eq_true rfl) hcs.1, Nat.le_trans (Nat.le_of_ble_eq_true rfl) hcs.2⟩ ?_
    refine z_id (st := .int a1 :: [.int (0 : Int32), zr G x2]) ?_
    refine z_i2l F dL_undo_7 ?_
    refine z_last F t2 dL_undo_8 hin ?_
    refine z_goto F 15 dL_undo_9 rfl ?_
    refine z_iconst (y := (0 : Int32)) F dL_undo_15 rfl ?_
    exact z_reti F hr hk dL_undo_16
  · cases he
  · cases he
    have hM9 := kX9_undo x.2.1 G x0 t0 x1 v (c1 + 2) a1 w hfl9 hq
    refine z_xcallC F (E := "java/lang/IllegalArgumentException") (cd := c1 + 1) [] ⟨0, 9, 12, 13⟩ [] htab (zEx2 c1) (fun z hz => absurd hz List.not_mem_nil) (by decide) (by decide) zck_L_13 zcc_A [.int x1] [.int (0 : Int32), zr G x2] hM9 mI_X9_undo (c := 9) rfl t0 wM_L_48 mi_X9_undo sl_X9_undo dL_undo_4 rfl ⟨Nat.le_of_ble_eq_true rfl, Nat.le_of_ble_eq_true rfl⟩ rfl (Nat.le_of_ble_eq_true rfl) ⟨Nat.le_trans (Nat.le_of_ble_eq_true rfl) hcs.1, Nat.le_trans (Nat.le_of_ble_eq_true rfl) hcs.2⟩ (fun q => ?_)
    refine z_astore_n F [(3, .ref q), (0, zr G x0), (1, .int x1), (2, zr G x2)] dL_undo_12 rfl (Nat.le_of_ble_eq_true rfl) rfl ?_
    refine z_iconst (y := (1 : Int32)) F dL_undo_13 rfl ?_
    exact z_reti F hr hk dL_undo_14

set_option maxRecDepth 20000 in
theorem kw_L_sums : Cond.codeWith yL_sums cL_sums 4 (some .int) [((0 : Nat), (9 : Nat), (12 : Nat), (13 : Nat))] ∈ zTbl := zTbl_of (zin_5 (List.mem_of_getElem? (i := 160) rfl)) rfl
theorem dL_sums_0 : decode cL_sums 0 = .ok (.aload_n 2, 1) := by decide +kernel
theorem dL_sums_1 : decode cL_sums 1 = .ok (.iconst 0, 1) := by decide +kernel
theorem dL_sums_2 : decode cL_sums 2 = .ok (.aload_n 0, 1) := by decide +kernel
theorem dL_sums_3 : decode cL_sums 3 = .ok (.iload_n 1, 1) := by decide +kernel
theorem dL_sums_4 : decode cL_sums 4 = .ok (.invokevirtual 51, 3) := by decide +kernel
theorem dL_sums_7 : decode cL_sums 7 = .ok (.i2l, 1) := by decide +kernel
theorem dL_sums_8 : decode cL_sums 8 = .ok (.lastore, 1) := by decide +kernel
theorem dL_sums_9 : decode cL_sums 9 = .ok (.goto 6, 3) := by decide +kernel
theorem dL_sums_12 : decode cL_sums 12 = .ok (.astore_n 3, 1) := by decide +kernel
theorem dL_sums_13 : decode cL_sums 13 = .ok (.iconst 1, 1) := by decide +kernel
theorem dL_sums_14 : decode cL_sums 14 = .ok (.ireturn, 1) := by decide +kernel
theorem dL_sums_15 : decode cL_sums 15 = .ok (.iconst 0, 1) := by decide +kernel
theorem dL_sums_16 : decode cL_sums 16 = .ok (.ireturn, 1) := by decide +kernel
def fL_sums (x0 : Nat) (x1 : Int32) (x2 : Nat) (v : zV) : Option (Int32 × zV) := zcatch (fX9_sums x0 x1 v) x2 none (some 1)
set_option maxRecDepth 4000 in
theorem kL_sums (l : Launch) (G : zG) (x0 : Nat) (t0 : zty G x0 1 9) (x1 : Int32) (x2 : Nat) (t2 : zty G x2 2 2) (v : zV) (r : Int32) (w : zV) (hfl9 : l.stackTraces = false) (h : fL_sums x0 x1 x2 v = some (r, w)) : zMetW l yL_sums cL_sums 4 (some .int) [((0 : Nat), (9 : Nat), (12 : Nat), (13 : Nat))] 8 152 1 6 [zr G x0, .int x1, zr G x2] G v (some (.int r)) w := by
  refine zMW_of (own := RL) (by decide) rfl (Nat.le_of_ble_eq_true rfl) (fun x hl F hr hk hcs htab => ?_)
  subst hl
  refine z_ls [(0, zr G x0), (1, .int x1), (2, zr G x2)] [0, 1, 2] rfl ?_
  refine z_aload_n F dL_sums_0 rfl 2 rfl ?_
  refine z_iconst (y := (0 : Int32)) F dL_sums_1 rfl ?_
  refine z_aload_n F dL_sums_2 rfl 0 rfl ?_
  refine z_iload_n F dL_sums_3 rfl 1 rfl ?_
  rcases zcatch_ex h with ⟨a1, v1, hq, hin, rfl, rfl⟩ | ⟨a1, hq, he⟩ | ⟨c1, a1, hq, he⟩
  · have hM9 := kX9_sums x.2.1 G x0 t0 x1 v 0 a1 v1 hfl9 hq
    refine z_xcall0 F [.int x1] [.int (0 : Int32), zr G x2] hM9 mI_X9_sums (c := 9) rfl t0 wM_L_51 mi_X9_sums sl_X9_sums dL_sums_4 rfl ⟨Nat.le_of_ble_eq_true rfl, Nat.le_of_ble_eq_true rfl⟩ rfl (Nat.le_of_ble_eq_true rfl) ⟨Nat.le_trans (Nat.le_of_ble_eq_true rfl) hcs.1, Nat.le_trans (Nat.le_of_ble_eq_true rfl) hcs.2⟩ ?_
    refine z_id (st := .int a1 :: [.int (0 : Int32), zr G x2]) ?_
    refine z_i2l F dL_sums_7 ?_
    refine z_last F t2 dL_sums_8 hin ?_
    refine z_goto F 15 dL_sums_9 rfl ?_
    refine z_iconst (y := (0 : Int32)) F dL_sums_15 rfl ?_
    exact z_reti F hr hk dL_sums_16
  · cases he
  · cases he
    have hM9 := kX9_sums x.2.1 G x0 t0 x1 v (c1 + 2) a1 w hfl9 hq
    refine z_xcallC F (E := "java/lang/IllegalArgumentException") (cd := c1 + 1) [] ⟨0, 9, 12, 13⟩ [] htab (zEx2 c1) (fun z hz => absurd hz List.not_mem_nil) (by decide) (by decide) zck_L_13 zcc_A [.int x1] [.int (0 : Int32), zr G x2] hM9 mI_X9_sums (c := 9) rfl t0 wM_L_51 mi_X9_sums sl_X9_sums dL_sums_4 rfl ⟨Nat.le_of_ble_eq_true rfl, Nat.le_of_ble_eq_true rfl⟩ rfl (Nat.le_of_ble_eq_true rfl) ⟨Nat.le_trans (Nat.le_of_ble_eq_true rfl) hcs.1, Nat.le_trans (Nat.le_of_ble_eq_true rfl) hcs.2⟩ (fun q => ?_)
    refine z_astore_n F [(3, .ref q), (0, zr G x0), (1, .int x1), (2, zr G x2)] dL_sums_12 rfl (Nat.le_of_ble_eq_true rfl) rfl ?_
    refine z_iconst (y := (1 : Int32)) F dL_sums_13 rfl ?_
    exact z_reti F hr hk dL_sums_14

set_option maxRecDepth 20000 in
theorem kw_L_die : Cond.codeWith yL_die cL_die 4 (some .int) [((0 : Nat), (9 : Nat), (12 : Nat), (28 : Nat))] ∈ zTbl := zTbl_of (zin_5 (List.mem_of_getElem? (i := 167) rfl)) rfl
theorem dL_die_0 : decode cL_die 0 = .ok (.aload_n 2, 1) := by decide +kernel
theorem dL_die_1 : decode cL_die 1 = .ok (.iconst 0, 1) := by decide +kernel
theorem dL_die_2 : decode cL_die 2 = .ok (.aload_n 0, 1) := by decide +kernel
theorem dL_die_3 : decode cL_die 3 = .ok (.iload_n 1, 1) := by decide +kernel
theorem dL_die_4 : decode cL_die 4 = .ok (.invokevirtual 54, 3) := by decide +kernel
theorem dL_die_7 : decode cL_die 7 = .ok (.i2l, 1) := by decide +kernel
theorem dL_die_8 : decode cL_die 8 = .ok (.lastore, 1) := by decide +kernel
theorem dL_die_9 : decode cL_die 9 = .ok (.goto 6, 3) := by decide +kernel
theorem dL_die_12 : decode cL_die 12 = .ok (.astore_n 3, 1) := by decide +kernel
theorem dL_die_13 : decode cL_die 13 = .ok (.iconst 1, 1) := by decide +kernel
theorem dL_die_14 : decode cL_die 14 = .ok (.ireturn, 1) := by decide +kernel
theorem dL_die_15 : decode cL_die 15 = .ok (.iconst 0, 1) := by decide +kernel
theorem dL_die_16 : decode cL_die 16 = .ok (.ireturn, 1) := by decide +kernel
def fL_die (x0 : Nat) (x1 : Int32) (x2 : Nat) (v : zV) : Option (Int32 × zV) := zcatch (fX9_die x0 x1 v) x2 (some 1) none
set_option maxRecDepth 4000 in
theorem kL_die (l : Launch) (G : zG) (x0 : Nat) (t0 : zty G x0 1 9) (x1 : Int32) (x2 : Nat) (t2 : zty G x2 2 2) (v : zV) (r : Int32) (w : zV) (hfl9 : l.stackTraces = false) (h : fL_die x0 x1 x2 v = some (r, w)) : zMetW l yL_die cL_die 4 (some .int) [((0 : Nat), (9 : Nat), (12 : Nat), (28 : Nat))] 8 192 1 6 [zr G x0, .int x1, zr G x2] G v (some (.int r)) w := by
  refine zMW_of (own := RL) (by decide) rfl (Nat.le_of_ble_eq_true rfl) (fun x hl F hr hk hcs htab => ?_)
  subst hl
  refine z_ls [(0, zr G x0), (1, .int x1), (2, zr G x2)] [0, 1, 2] rfl ?_
  refine z_aload_n F dL_die_0 rfl 2 rfl ?_
  refine z_iconst (y := (0 : Int32)) F dL_die_1 rfl ?_
  refine z_aload_n F dL_die_2 rfl 0 rfl ?_
  refine z_iload_n F dL_die_3 rfl 1 rfl ?_
  rcases zcatch_ex h with ⟨a1, v1, hq, hin, rfl, rfl⟩ | ⟨a1, hq, he⟩ | ⟨c1, a1, hq, he⟩
  · have hM9 := kX9_die x.2.1 G x0 t0 x1 v 0 a1 v1 hfl9 hq
    refine z_xcall0 F [.int x1] [.int (0 : Int32), zr G x2] hM9 mI_X9_die (c := 9) rfl t0 wM_L_54 mi_X9_die sl_X9_die dL_die_4 rfl ⟨Nat.le_of_ble_eq_true rfl, Nat.le_of_ble_eq_true rfl⟩ rfl (Nat.le_of_ble_eq_true rfl) ⟨Nat.le_trans (Nat.le_of_ble_eq_true rfl) hcs.1, Nat.le_trans (Nat.le_of_ble_eq_true rfl) hcs.2⟩ ?_
    refine z_id (st := .int a1 :: [.int (0 : Int32), zr G x2]) ?_
    refine z_i2l F dL_die_7 ?_
    refine z_last F t2 dL_die_8 hin ?_
    refine z_goto F 15 dL_die_9 rfl ?_
    refine z_iconst (y := (0 : Int32)) F dL_die_15 rfl ?_
    exact z_reti F hr hk dL_die_16
  · cases he
    have hM9 := kX9_die x.2.1 G x0 t0 x1 v 1 a1 w hfl9 hq
    refine z_xcallC F (E := "java/util/NoSuchElementException") (cd := 0) [] ⟨0, 9, 12, 28⟩ [] htab rfl (fun z hz => absurd hz List.not_mem_nil) (by decide) (by decide) zck_L_28 zcc_N [.int x1] [.int (0 : Int32), zr G x2] hM9 mI_X9_die (c := 9) rfl t0 wM_L_54 mi_X9_die sl_X9_die dL_die_4 rfl ⟨Nat.le_of_ble_eq_true rfl, Nat.le_of_ble_eq_true rfl⟩ rfl (Nat.le_of_ble_eq_true rfl) ⟨Nat.le_trans (Nat.le_of_ble_eq_true rfl) hcs.1, Nat.le_trans (Nat.le_of_ble_eq_true rfl) hcs.2⟩ (fun q => ?_)
    refine z_astore_n F [(3, .ref q), (0, zr G x0), (1, .int x1), (2, zr G x2)] dL_die_12 rfl (Nat.le_of_ble_eq_true rfl) rfl ?_
    refine z_iconst (y := (1 : Int32)) F dL_die_13 rfl ?_
    exact z_reti F hr hk dL_die_14
  · cases he

set_option maxRecDepth 20000 in
theorem kw_L_praise : Cond.codeWith yL_praise cL_praise 5 (some .int) [((0 : Nat), (10 : Nat), (13 : Nat), (28 : Nat)), ((0 : Nat), (10 : Nat), (17 : Nat), (13 : Nat))] ∈ zTbl := zTbl_of (zin_5 (List.mem_of_getElem? (i := 175) rfl)) rfl
theorem dL_praise_0 : decode cL_praise 0 = .ok (.aload_n 3, 1) := by decide +kernel
theorem dL_praise_1 : decode cL_praise 1 = .ok (.iconst 0, 1) := by decide +kernel
theorem dL_praise_2 : decode cL_praise 2 = .ok (.aload_n 0, 1) := by decide +kernel
theorem dL_praise_3 : decode cL_praise 3 = .ok (.iload_n 1, 1) := by decide +kernel
theorem dL_praise_4 : decode cL_praise 4 = .ok (.iload_n 2, 1) := by decide +kernel
theorem dL_praise_5 : decode cL_praise 5 = .ok (.invokevirtual 57, 3) := by decide +kernel
theorem dL_praise_8 : decode cL_praise 8 = .ok (.i2l, 1) := by decide +kernel
theorem dL_praise_9 : decode cL_praise 9 = .ok (.lastore, 1) := by decide +kernel
theorem dL_praise_10 : decode cL_praise 10 = .ok (.goto 11, 3) := by decide +kernel
theorem dL_praise_13 : decode cL_praise 13 = .ok (.astore 4, 2) := by decide +kernel
theorem dL_praise_15 : decode cL_praise 15 = .ok (.iconst 1, 1) := by decide +kernel
theorem dL_praise_16 : decode cL_praise 16 = .ok (.ireturn, 1) := by decide +kernel
theorem dL_praise_17 : decode cL_praise 17 = .ok (.astore 4, 2) := by decide +kernel
theorem dL_praise_19 : decode cL_praise 19 = .ok (.iconst 2, 1) := by decide +kernel
theorem dL_praise_20 : decode cL_praise 20 = .ok (.ireturn, 1) := by decide +kernel
theorem dL_praise_21 : decode cL_praise 21 = .ok (.iconst 0, 1) := by decide +kernel
theorem dL_praise_22 : decode cL_praise 22 = .ok (.ireturn, 1) := by decide +kernel
def fL_praise (x0 : Nat) (x1 : Int32) (x2 : Int32) (x3 : Nat) (v : zV) : Option (Int32 × zV) := zcatch (fX9_praise x0 x1 x2 v) x3 (some 1) (some 2)
set_option maxRecDepth 4000 in
theorem kL_praise (l : Launch) (G : zG) (x0 : Nat) (t0 : zty G x0 1 9) (x1 : Int32) (x2 : Int32) (x3 : Nat) (t3 : zty G x3 2 2) (v : zV) (r : Int32) (w : zV) (hfl9 : l.stackTraces = false) (h : fL_praise x0 x1 x2 x3 v = some (r, w)) : zMetW l yL_praise cL_praise 5 (some .int) [((0 : Nat), (10 : Nat), (13 : Nat), (28 : Nat)), ((0 : Nat), (10 : Nat), (17 : Nat), (13 : Nat))] 8 153 2 12 [zr G x0, .int x1, .int x2, zr G x3] G v (some (.int r)) w := by
  refine zMW_of (own := RL) (by decide) rfl (Nat.le_of_ble_eq_true rfl) (fun x hl F hr hk hcs htab => ?_)
  subst hl
  refine z_ls [(0, zr G x0), (1, .int x1), (2, .int x2), (3, zr G x3)] [0, 1, 2, 3] rfl ?_
  refine z_aload_n F dL_praise_0 rfl 3 rfl ?_
  refine z_iconst (y := (0 : Int32)) F dL_praise_1 rfl ?_
  refine z_aload_n F dL_praise_2 rfl 0 rfl ?_
  refine z_iload_n F dL_praise_3 rfl 1 rfl ?_
  refine z_iload_n F dL_praise_4 rfl 2 rfl ?_
  rcases zcatch_ex h with ⟨a1, v1, hq, hin, rfl, rfl⟩ | ⟨a1, hq, he⟩ | ⟨c1, a1, hq, he⟩
  · have hM9 := kX9_praise x.2.1 G x0 t0 x1 x2 v 0 a1 v1 hfl9 hq
    refine z_xcall0 F [.int x1, .int x2] [.int (0 : Int32), zr G x3] hM9 mI_X9_praise (c := 9) rfl t0 wM_L_57 mi_X9_praise sl_X9_praise dL_praise_5 rfl ⟨Nat.le_of_ble_eq_true rfl, Nat.le_of_ble_eq_true rfl⟩ rfl (Nat.le_of_ble_eq_true rfl) ⟨Nat.le_trans (Nat.le_of_ble_eq_true rfl) hcs.1, Nat.le_trans (Nat.le_of_ble_eq_true rfl) hcs.2⟩ ?_
    refine z_id (st := .int a1 :: [.int (0 : Int32), zr G x3]) ?_
    refine z_i2l F dL_praise_8 ?_
    refine z_last F t3 dL_praise_9 hin ?_
    refine z_goto F 21 dL_praise_10 rfl ?_
    refine z_iconst (y := (0 : Int32)) F dL_praise_21 rfl ?_
    exact z_reti F hr hk dL_praise_22
  · cases he
    have hM9 := kX9_praise x.2.1 G x0 t0 x1 x2 v 1 a1 w hfl9 hq
    refine z_xcallC F (E := "java/util/NoSuchElementException") (cd := 0) [] ⟨0, 10, 13, 28⟩ [⟨0, 10, 17, 13⟩] htab rfl (fun z hz => absurd hz List.not_mem_nil) (by decide) (by decide) zck_L_28 zcc_N [.int x1, .int x2] [.int (0 : Int32), zr G x3] hM9 mI_X9_praise (c := 9) rfl t0 wM_L_57 mi_X9_praise sl_X9_praise dL_praise_5 rfl ⟨Nat.le_of_ble_eq_true rfl, Nat.le_of_ble_eq_true rfl⟩ rfl (Nat.le_of_ble_eq_true rfl) ⟨Nat.le_trans (Nat.le_of_ble_eq_true rfl) hcs.1, Nat.le_trans (Nat.le_of_ble_eq_true rfl) hcs.2⟩ (fun q => ?_)
    refine z_astore (n := 0) F [(4, .ref q), (0, zr G x0), (1, .int x1), (2, .int x2), (3, zr G x3)] dL_praise_13 (Nat.le_of_ble_eq_true rfl) rfl ?_
    refine z_iconst (y := (1 : Int32)) F dL_praise_15 rfl ?_
    exact z_reti F hr hk dL_praise_16
  · cases he
    have hM9 := kX9_praise x.2.1 G x0 t0 x1 x2 v (c1 + 2) a1 w hfl9 hq
    refine z_xcallC F (E := "java/lang/IllegalArgumentException") (cd := c1 + 1) [⟨0, 10, 13, 28⟩] ⟨0, 10, 17, 13⟩ [] htab (zEx2 c1) (fun z hz => by
      rw [List.mem_singleton] at hz
      subst hz
      exact ⟨by decide, "java/util/NoSuchElementException", zck_L_28, z_nc F.2.2.2.2.2.2.2.2⟩) (by decide) (by decide) zck_L_13 zcc_A [.int x1, .int x2] [.int (0 : Int32), zr G x3] hM9 mI_X9_praise (c := 9) rfl t0 wM_L_57 mi_X9_praise sl_X9_praise dL_praise_5 rfl ⟨Nat.le_of_ble_eq_true rfl, Nat.le_of_ble_eq_true rfl⟩ rfl (Nat.le_of_ble_eq_true rfl) ⟨Nat.le_trans (Nat.le_of_ble_eq_true rfl) hcs.1, Nat.le_trans (Nat.le_of_ble_eq_true rfl) hcs.2⟩ (fun q => ?_)
    refine z_astore (n := 0) F [(4, .ref q), (0, zr G x0), (1, .int x1), (2, .int x2), (3, zr G x3)] dL_praise_17 (Nat.le_of_ble_eq_true rfl) rfl ?_
    refine z_iconst (y := (2 : Int32)) F dL_praise_19 rfl ?_
    exact z_reti F hr hk dL_praise_20

set_option maxRecDepth 20000 in
theorem kw_L_ahead : Cond.codeWith yL_ahead cL_ahead 5 (some .int) [((0 : Nat), (10 : Nat), (13 : Nat), (13 : Nat))] ∈ zTbl := zTbl_of (zin_5 (List.mem_of_getElem? (i := 187) rfl)) rfl
theorem dL_ahead_0 : decode cL_ahead 0 = .ok (.aload_n 3, 1) := by decide +kernel
theorem dL_ahead_1 : decode cL_ahead 1 = .ok (.iconst 0, 1) := by decide +kernel
theorem dL_ahead_2 : decode cL_ahead 2 = .ok (.aload_n 0, 1) := by decide +kernel
theorem dL_ahead_3 : decode cL_ahead 3 = .ok (.iload_n 1, 1) := by decide +kernel
theorem dL_ahead_4 : decode cL_ahead 4 = .ok (.iload_n 2, 1) := by decide +kernel
theorem dL_ahead_5 : decode cL_ahead 5 = .ok (.invokevirtual 60, 3) := by decide +kernel
theorem dL_ahead_8 : decode cL_ahead 8 = .ok (.i2l, 1) := by decide +kernel
theorem dL_ahead_9 : decode cL_ahead 9 = .ok (.lastore, 1) := by decide +kernel
theorem dL_ahead_10 : decode cL_ahead 10 = .ok (.goto 7, 3) := by decide +kernel
theorem dL_ahead_13 : decode cL_ahead 13 = .ok (.astore 4, 2) := by decide +kernel
theorem dL_ahead_15 : decode cL_ahead 15 = .ok (.iconst 1, 1) := by decide +kernel
theorem dL_ahead_16 : decode cL_ahead 16 = .ok (.ireturn, 1) := by decide +kernel
theorem dL_ahead_17 : decode cL_ahead 17 = .ok (.iconst 0, 1) := by decide +kernel
theorem dL_ahead_18 : decode cL_ahead 18 = .ok (.ireturn, 1) := by decide +kernel
def fL_ahead (x0 : Nat) (x1 : Int32) (x2 : Int32) (x3 : Nat) (v : zV) : Option (Int32 × zV) := zcatch (fX9_ahead x0 x1 x2 v) x3 none (some 1)
set_option maxRecDepth 4000 in
theorem kL_ahead (l : Launch) (G : zG) (x0 : Nat) (t0 : zty G x0 1 9) (x1 : Int32) (x2 : Int32) (x3 : Nat) (t3 : zty G x3 2 2) (v : zV) (r : Int32) (w : zV) (hfl9 : l.stackTraces = false) (h : fL_ahead x0 x1 x2 x3 v = some (r, w)) : zMetW l yL_ahead cL_ahead 5 (some .int) [((0 : Nat), (10 : Nat), (13 : Nat), (13 : Nat))] 9 259 2 12 [zr G x0, .int x1, .int x2, zr G x3] G v (some (.int r)) w := by
  refine zMW_of (own := RL) (by decide) rfl (Nat.le_of_ble_eq_true rfl) (fun x hl F hr hk hcs htab => ?_)
  subst hl
  refine z_ls [(0, zr G x0), (1, .int x1), (2, .int x2), (3, zr G x3)] [0, 1, 2, 3] rfl ?_
  refine z_aload_n F dL_ahead_0 rfl 3 rfl ?_
  refine z_iconst (y := (0 : Int32)) F dL_ahead_1 rfl ?_
  refine z_aload_n F dL_ahead_2 rfl 0 rfl ?_
  refine z_iload_n F dL_ahead_3 rfl 1 rfl ?_
  refine z_iload_n F dL_ahead_4 rfl 2 rfl ?_
  rcases zcatch_ex h with ⟨a1, v1, hq, hin, rfl, rfl⟩ | ⟨a1, hq, he⟩ | ⟨c1, a1, hq, he⟩
  · have hM9 := kX9_ahead x.2.1 G x0 t0 x1 x2 v 0 a1 v1 hfl9 hq
    refine z_xcall0 F [.int x1, .int x2] [.int (0 : Int32), zr G x3] hM9 mI_X9_ahead (c := 9) rfl t0 wM_L_60 mi_X9_ahead sl_X9_ahead dL_ahead_5 rfl ⟨Nat.le_of_ble_eq_true rfl, Nat.le_of_ble_eq_true rfl⟩ rfl (Nat.le_of_ble_eq_true rfl) ⟨Nat.le_trans (Nat.le_of_ble_eq_true rfl) hcs.1, Nat.le_trans (Nat.le_of_ble_eq_true rfl) hcs.2⟩ ?_
    refine z_id (st := .int a1 :: [.int (0 : Int32), zr G x3]) ?_
    refine z_i2l F dL_ahead_8 ?_
    refine z_last F t3 dL_ahead_9 hin ?_
    refine z_goto F 17 dL_ahead_10 rfl ?_
    refine z_iconst (y := (0 : Int32)) F dL_ahead_17 rfl ?_
    exact z_reti F hr hk dL_ahead_18
  · cases he
  · cases he
    have hM9 := kX9_ahead x.2.1 G x0 t0 x1 x2 v (c1 + 2) a1 w hfl9 hq
    refine z_xcallC F (E := "java/lang/IllegalArgumentException") (cd := c1 + 1) [] ⟨0, 10, 13, 13⟩ [] htab (zEx2 c1) (fun z hz => absurd hz List.not_mem_nil) (by decide) (by decide) zck_L_13 zcc_A [.int x1, .int x2] [.int (0 : Int32), zr G x3] hM9 mI_X9_ahead (c := 9) rfl t0 wM_L_60 mi_X9_ahead sl_X9_ahead dL_ahead_5 rfl ⟨Nat.le_of_ble_eq_true rfl, Nat.le_of_ble_eq_true rfl⟩ rfl (Nat.le_of_ble_eq_true rfl) ⟨Nat.le_trans (Nat.le_of_ble_eq_true rfl) hcs.1, Nat.le_trans (Nat.le_of_ble_eq_true rfl) hcs.2⟩ (fun q => ?_)
    refine z_astore (n := 0) F [(4, .ref q), (0, zr G x0), (1, .int x1), (2, .int x2), (3, zr G x3)] dL_ahead_13 (Nat.le_of_ble_eq_true rfl) rfl ?_
    refine z_iconst (y := (1 : Int32)) F dL_ahead_15 rfl ?_
    exact z_reti F hr hk dL_ahead_16

set_option maxRecDepth 20000 in
theorem kw_L_when : Cond.codeWith yL_when cL_when 4 (some .int) [((0 : Nat), (9 : Nat), (12 : Nat), (28 : Nat))] ∈ zTbl := zTbl_of (zin_5 (List.mem_of_getElem? (i := 199) rfl)) rfl
theorem dL_when_0 : decode cL_when 0 = .ok (.aload_n 2, 1) := by decide +kernel
theorem dL_when_1 : decode cL_when 1 = .ok (.iconst 0, 1) := by decide +kernel
theorem dL_when_2 : decode cL_when 2 = .ok (.aload_n 0, 1) := by decide +kernel
theorem dL_when_3 : decode cL_when 3 = .ok (.iload_n 1, 1) := by decide +kernel
theorem dL_when_4 : decode cL_when 4 = .ok (.invokevirtual 63, 3) := by decide +kernel
theorem dL_when_7 : decode cL_when 7 = .ok (.i2l, 1) := by decide +kernel
theorem dL_when_8 : decode cL_when 8 = .ok (.lastore, 1) := by decide +kernel
theorem dL_when_9 : decode cL_when 9 = .ok (.goto 6, 3) := by decide +kernel
theorem dL_when_12 : decode cL_when 12 = .ok (.astore_n 3, 1) := by decide +kernel
theorem dL_when_13 : decode cL_when 13 = .ok (.iconst 1, 1) := by decide +kernel
theorem dL_when_14 : decode cL_when 14 = .ok (.ireturn, 1) := by decide +kernel
theorem dL_when_15 : decode cL_when 15 = .ok (.iconst 0, 1) := by decide +kernel
theorem dL_when_16 : decode cL_when 16 = .ok (.ireturn, 1) := by decide +kernel
def fL_when (x0 : Nat) (x1 : Int32) (x2 : Nat) (v : zV) : Option (Int32 × zV) := zcatch (fX9_when x0 x1 v) x2 (some 1) none
set_option maxRecDepth 4000 in
theorem kL_when (l : Launch) (G : zG) (x0 : Nat) (t0 : zty G x0 1 9) (x1 : Int32) (x2 : Nat) (t2 : zty G x2 2 2) (v : zV) (r : Int32) (w : zV) (hfl9 : l.stackTraces = false) (h : fL_when x0 x1 x2 v = some (r, w)) : zMetW l yL_when cL_when 4 (some .int) [((0 : Nat), (9 : Nat), (12 : Nat), (28 : Nat))] 9 257 1 6 [zr G x0, .int x1, zr G x2] G v (some (.int r)) w := by
  refine zMW_of (own := RL) (by decide) rfl (Nat.le_of_ble_eq_true rfl) (fun x hl F hr hk hcs htab => ?_)
  subst hl
  refine z_ls [(0, zr G x0), (1, .int x1), (2, zr G x2)] [0, 1, 2] rfl ?_
  refine z_aload_n F dL_when_0 rfl 2 rfl ?_
  refine z_iconst (y := (0 : Int32)) F dL_when_1 rfl ?_
  refine z_aload_n F dL_when_2 rfl 0 rfl ?_
  refine z_iload_n F dL_when_3 rfl 1 rfl ?_
  rcases zcatch_ex h with ⟨a1, v1, hq, hin, rfl, rfl⟩ | ⟨a1, hq, he⟩ | ⟨c1, a1, hq, he⟩
  · have hM9 := kX9_when x.2.1 G x0 t0 x1 v 0 a1 v1 hfl9 hq
    refine z_xcall0 F [.int x1] [.int (0 : Int32), zr G x2] hM9 mI_X9_when (c := 9) rfl t0 wM_L_63 mi_X9_when sl_X9_when dL_when_4 rfl ⟨Nat.le_of_ble_eq_true rfl, Nat.le_of_ble_eq_true rfl⟩ rfl (Nat.le_of_ble_eq_true rfl) ⟨Nat.le_trans (Nat.le_of_ble_eq_true rfl) hcs.1, Nat.le_trans (Nat.le_of_ble_eq_true rfl) hcs.2⟩ ?_
    refine z_id (st := .int a1 :: [.int (0 : Int32), zr G x2]) ?_
    refine z_i2l F dL_when_7 ?_
    refine z_last F t2 dL_when_8 hin ?_
    refine z_goto F 15 dL_when_9 rfl ?_
    refine z_iconst (y := (0 : Int32)) F dL_when_15 rfl ?_
    exact z_reti F hr hk dL_when_16
  · cases he
    have hM9 := kX9_when x.2.1 G x0 t0 x1 v 1 a1 w hfl9 hq
    refine z_xcallC F (E := "java/util/NoSuchElementException") (cd := 0) [] ⟨0, 9, 12, 28⟩ [] htab rfl (fun z hz => absurd hz List.not_mem_nil) (by decide) (by decide) zck_L_28 zcc_N [.int x1] [.int (0 : Int32), zr G x2] hM9 mI_X9_when (c := 9) rfl t0 wM_L_63 mi_X9_when sl_X9_when dL_when_4 rfl ⟨Nat.le_of_ble_eq_true rfl, Nat.le_of_ble_eq_true rfl⟩ rfl (Nat.le_of_ble_eq_true rfl) ⟨Nat.le_trans (Nat.le_of_ble_eq_true rfl) hcs.1, Nat.le_trans (Nat.le_of_ble_eq_true rfl) hcs.2⟩ (fun q => ?_)
    refine z_astore_n F [(3, .ref q), (0, zr G x0), (1, .int x1), (2, zr G x2)] dL_when_12 rfl (Nat.le_of_ble_eq_true rfl) rfl ?_
    refine z_iconst (y := (1 : Int32)) F dL_when_13 rfl ?_
    exact z_reti F hr hk dL_when_14
  · cases he

set_option maxRecDepth 20000 in
theorem kw_L_praises : Cond.codeWith yL_praises cL_praises 7 (some .int) [((0 : Nat), (14 : Nat), (17 : Nat), (28 : Nat)), ((0 : Nat), (14 : Nat), (21 : Nat), (13 : Nat))] ∈ zTbl := zTbl_of (zin_5 (List.mem_of_getElem? (i := 206) rfl)) rfl
theorem dL_praises_0 : decode cL_praises 0 = .ok (.aload 5, 2) := by decide +kernel
theorem dL_praises_2 : decode cL_praises 2 = .ok (.iconst 0, 1) := by decide +kernel
theorem dL_praises_3 : decode cL_praises 3 = .ok (.aload_n 0, 1) := by decide +kernel
theorem dL_praises_4 : decode cL_praises 4 = .ok (.iload_n 1, 1) := by decide +kernel
theorem dL_praises_5 : decode cL_praises 5 = .ok (.iload_n 2, 1) := by decide +kernel
theorem dL_praises_6 : decode cL_praises 6 = .ok (.iload_n 3, 1) := by decide +kernel
theorem dL_praises_7 : decode cL_praises 7 = .ok (.iload 4, 2) := by decide +kernel
theorem dL_praises_9 : decode cL_praises 9 = .ok (.invokevirtual 66, 3) := by decide +kernel
theorem dL_praises_12 : decode cL_praises 12 = .ok (.i2l, 1) := by decide +kernel
theorem dL_praises_13 : decode cL_praises 13 = .ok (.lastore, 1) := by decide +kernel
theorem dL_praises_14 : decode cL_praises 14 = .ok (.goto 11, 3) := by decide +kernel
theorem dL_praises_17 : decode cL_praises 17 = .ok (.astore 6, 2) := by decide +kernel
theorem dL_praises_19 : decode cL_praises 19 = .ok (.iconst 1, 1) := by decide +kernel
theorem dL_praises_20 : decode cL_praises 20 = .ok (.ireturn, 1) := by decide +kernel
theorem dL_praises_21 : decode cL_praises 21 = .ok (.astore 6, 2) := by decide +kernel
theorem dL_praises_23 : decode cL_praises 23 = .ok (.iconst 2, 1) := by decide +kernel
theorem dL_praises_24 : decode cL_praises 24 = .ok (.ireturn, 1) := by decide +kernel
theorem dL_praises_25 : decode cL_praises 25 = .ok (.iconst 0, 1) := by decide +kernel
theorem dL_praises_26 : decode cL_praises 26 = .ok (.ireturn, 1) := by decide +kernel
def fL_praises (x0 : Nat) (x1 : Int32) (x2 : Int32) (x3 : Int32) (x4 : Int32) (x5 : Nat) (v : zV) : Option (Int32 × zV) := zcatch (fX9_praises x0 x1 x2 x3 x4 v) x5 (some 1) (some 2)
set_option maxRecDepth 4000 in
theorem kL_praises (l : Launch) (G : zG) (x0 : Nat) (t0 : zty G x0 1 9) (x1 : Int32) (x2 : Int32) (x3 : Int32) (x4 : Int32) (x5 : Nat) (t5 : zty G x5 2 2) (v : zV) (r : Int32) (w : zV) (hfl9 : l.stackTraces = false) (h : fL_praises x0 x1 x2 x3 x4 x5 v = some (r, w)) : zMetW l yL_praises cL_praises 7 (some .int) [((0 : Nat), (14 : Nat), (17 : Nat), (28 : Nat)), ((0 : Nat), (14 : Nat), (21 : Nat), (13 : Nat))] 9 269 4 24 [zr G x0, .int x1, .int x2, .int x3, .int x4, zr G x5] G v (some (.int r)) w := by
  refine zMW_of (own := RL) (by decide) rfl (Nat.le_of_ble_eq_true rfl) (fun x hl F hr hk hcs htab => ?_)
  subst hl
  refine z_ls [(0, zr G x0), (1, .int x1), (2, .int x2), (3, .int x3), (4, .int x4), (5, zr G x5)] [0, 1, 2, 3, 4, 5] rfl ?_
  refine z_aload F dL_praises_0 5 rfl ?_
  refine z_iconst (y := (0 : Int32)) F dL_praises_2 rfl ?_
  refine z_aload_n F dL_praises_3 rfl 0 rfl ?_
  refine z_iload_n F dL_praises_4 rfl 1 rfl ?_
  refine z_iload_n F dL_praises_5 rfl 2 rfl ?_
  refine z_iload_n F dL_praises_6 rfl 3 rfl ?_
  refine z_iload F dL_praises_7 4 rfl ?_
  rcases zcatch_ex h with ⟨a1, v1, hq, hin, rfl, rfl⟩ | ⟨a1, hq, he⟩ | ⟨c1, a1, hq, he⟩
  · have hM9 := kX9_praises x.2.1 G x0 t0 x1 x2 x3 x4 v 0 a1 v1 hfl9 hq
    refine z_xcall0 F [.int x1, .int x2, .int x3, .int x4] [.int (0 : Int32), zr G x5] hM9 mI_X9_praises (c := 9) rfl t0 wM_L_66 mi_X9_praises sl_X9_praises dL_praises_9 rfl ⟨Nat.le_of_ble_eq_true rfl, Nat.le_of_ble_eq_true rfl⟩ rfl (Nat.le_of_ble_eq_true rfl) ⟨Nat.le_trans (Nat.le_of_ble_eq_true rfl) hcs.1, Nat.le_trans (Nat.le_of_ble_eq_true rfl) hcs.2⟩ ?_
    refine z_id (st := .int a1 :: [.int (0 : Int32), zr G x5]) ?_
    refine z_i2l F dL_praises_12 ?_
    refine z_last F t5 dL_praises_13 hin ?_
    refine z_goto F 25 dL_praises_14 rfl ?_
    refine z_iconst (y := (0 : Int32)) F dL_praises_25 rfl ?_
    exact z_reti F hr hk dL_praises_26
  · cases he
    have hM9 := kX9_praises x.2.1 G x0 t0 x1 x2 x3 x4 v 1 a1 w hfl9 hq
    refine z_xcallC F (E := "java/util/NoSuchElementException") (cd := 0) [] ⟨0, 14, 17, 28⟩ [⟨0, 14, 21, 13⟩] htab rfl (fun z hz => absurd hz List.not_mem_nil) (by decide) (by decide) zck_L_28 zcc_N [.int x1, .int x2, .int x3, .int x4] [.int (0 : Int32), zr G x5] hM9 mI_X9_praises (c := 9) rfl t0 wM_L_66 mi_X9_praises sl_X9_praises dL_praises_9 rfl ⟨Nat.le_of_ble_eq_true rfl, Nat.le_of_ble_eq_true rfl⟩ rfl (Nat.le_of_ble_eq_true rfl) ⟨Nat.le_trans (Nat.le_of_ble_eq_true rfl) hcs.1, Nat.le_trans (Nat.le_of_ble_eq_true rfl) hcs.2⟩ (fun q => ?_)
    refine z_astore (n := 0) F [(6, .ref q), (0, zr G x0), (1, .int x1), (2, .int x2), (3, .int x3), (4, .int x4), (5, zr G x5)] dL_praises_17 (Nat.le_of_ble_eq_true rfl) rfl ?_
    refine z_iconst (y := (1 : Int32)) F dL_praises_19 rfl ?_
    exact z_reti F hr hk dL_praises_20
  · cases he
    have hM9 := kX9_praises x.2.1 G x0 t0 x1 x2 x3 x4 v (c1 + 2) a1 w hfl9 hq
    refine z_xcallC F (E := "java/lang/IllegalArgumentException") (cd := c1 + 1) [⟨0, 14, 17, 28⟩] ⟨0, 14, 21, 13⟩ [] htab (zEx2 c1) (fun z hz => by
      rw [List.mem_singleton] at hz
      subst hz
      exact ⟨by decide, "java/util/NoSuchElementException", zck_L_28, z_nc F.2.2.2.2.2.2.2.2⟩) (by decide) (by decide) zck_L_13 zcc_A [.int x1, .int x2, .int x3, .int x4] [.int (0 : Int32), zr G x5] hM9 mI_X9_praises (c := 9) rfl t0 wM_L_66 mi_X9_praises sl_X9_praises dL_praises_9 rfl ⟨Nat.le_of_ble_eq_true rfl, Nat.le_of_ble_eq_true rfl⟩ rfl (Nat.le_of_ble_eq_true rfl) ⟨Nat.le_trans (Nat.le_of_ble_eq_true rfl) hcs.1, Nat.le_trans (Nat.le_of_ble_eq_true rfl) hcs.2⟩ (fun q => ?_)
    refine z_astore (n := 0) F [(6, .ref q), (0, zr G x0), (1, .int x1), (2, .int x2), (3, .int x3), (4, .int x4), (5, zr G x5)] dL_praises_21 (Nat.le_of_ble_eq_true rfl) rfl ?_
    refine z_iconst (y := (2 : Int32)) F dL_praises_23 rfl ?_
    exact z_reti F hr hk dL_praises_24

set_option maxRecDepth 20000 in
theorem kw_L_beliefs : Cond.codeWith yL_beliefs cL_beliefs 5 (some .int) [((0 : Nat), (10 : Nat), (13 : Nat), (28 : Nat)), ((0 : Nat), (10 : Nat), (17 : Nat), (13 : Nat))] ∈ zTbl := zTbl_of (zin_5 (List.mem_of_getElem? (i := 239) rfl)) rfl
theorem dL_beliefs_0 : decode cL_beliefs 0 = .ok (.aload_n 3, 1) := by decide +kernel
theorem dL_beliefs_1 : decode cL_beliefs 1 = .ok (.iconst 0, 1) := by decide +kernel
theorem dL_beliefs_2 : decode cL_beliefs 2 = .ok (.aload_n 0, 1) := by decide +kernel
theorem dL_beliefs_3 : decode cL_beliefs 3 = .ok (.iload_n 1, 1) := by decide +kernel
theorem dL_beliefs_4 : decode cL_beliefs 4 = .ok (.iload_n 2, 1) := by decide +kernel
theorem dL_beliefs_5 : decode cL_beliefs 5 = .ok (.invokevirtual 70, 3) := by decide +kernel
theorem dL_beliefs_8 : decode cL_beliefs 8 = .ok (.i2l, 1) := by decide +kernel
theorem dL_beliefs_9 : decode cL_beliefs 9 = .ok (.lastore, 1) := by decide +kernel
theorem dL_beliefs_10 : decode cL_beliefs 10 = .ok (.goto 11, 3) := by decide +kernel
theorem dL_beliefs_13 : decode cL_beliefs 13 = .ok (.astore 4, 2) := by decide +kernel
theorem dL_beliefs_15 : decode cL_beliefs 15 = .ok (.iconst 1, 1) := by decide +kernel
theorem dL_beliefs_16 : decode cL_beliefs 16 = .ok (.ireturn, 1) := by decide +kernel
theorem dL_beliefs_17 : decode cL_beliefs 17 = .ok (.astore 4, 2) := by decide +kernel
theorem dL_beliefs_19 : decode cL_beliefs 19 = .ok (.iconst 2, 1) := by decide +kernel
theorem dL_beliefs_20 : decode cL_beliefs 20 = .ok (.ireturn, 1) := by decide +kernel
theorem dL_beliefs_21 : decode cL_beliefs 21 = .ok (.iconst 0, 1) := by decide +kernel
theorem dL_beliefs_22 : decode cL_beliefs 22 = .ok (.ireturn, 1) := by decide +kernel
def fL_beliefs (x0 : Nat) (x1 : Int32) (x2 : Int32) (x3 : Nat) (v : zV) : Option (Int32 × zV) := zcatch (fX9_beliefs x0 x1 x2 v) x3 (some 1) (some 2)
set_option maxRecDepth 4000 in
theorem kL_beliefs (l : Launch) (G : zG) (x0 : Nat) (t0 : zty G x0 1 9) (x1 : Int32) (x2 : Int32) (x3 : Nat) (t3 : zty G x3 2 2) (v : zV) (r : Int32) (w : zV) (hfl9 : l.stackTraces = false) (h : fL_beliefs x0 x1 x2 x3 v = some (r, w)) : zMetW l yL_beliefs cL_beliefs 5 (some .int) [((0 : Nat), (10 : Nat), (13 : Nat), (28 : Nat)), ((0 : Nat), (10 : Nat), (17 : Nat), (13 : Nat))] 9 263 2 12 [zr G x0, .int x1, .int x2, zr G x3] G v (some (.int r)) w := by
  refine zMW_of (own := RL) (by decide) rfl (Nat.le_of_ble_eq_true rfl) (fun x hl F hr hk hcs htab => ?_)
  subst hl
  refine z_ls [(0, zr G x0), (1, .int x1), (2, .int x2), (3, zr G x3)] [0, 1, 2, 3] rfl ?_
  refine z_aload_n F dL_beliefs_0 rfl 3 rfl ?_
  refine z_iconst (y := (0 : Int32)) F dL_beliefs_1 rfl ?_
  refine z_aload_n F dL_beliefs_2 rfl 0 rfl ?_
  refine z_iload_n F dL_beliefs_3 rfl 1 rfl ?_
  refine z_iload_n F dL_beliefs_4 rfl 2 rfl ?_
  rcases zcatch_ex h with ⟨a1, v1, hq, hin, rfl, rfl⟩ | ⟨a1, hq, he⟩ | ⟨c1, a1, hq, he⟩
  · have hM9 := kX9_beliefs x.2.1 G x0 t0 x1 x2 v 0 a1 v1 hfl9 hq
    refine z_xcall0 F [.int x1, .int x2] [.int (0 : Int32), zr G x3] hM9 mI_X9_beliefs (c := 9) rfl t0 wM_L_70 mi_X9_beliefs sl_X9_beliefs dL_beliefs_5 rfl ⟨Nat.le_of_ble_eq_true rfl, Nat.le_of_ble_eq_true rfl⟩ rfl (Nat.le_of_ble_eq_true rfl) ⟨Nat.le_trans (Nat.le_of_ble_eq_true rfl) hcs.1, Nat.le_trans (Nat.le_of_ble_eq_true rfl) hcs.2⟩ ?_
    refine z_id (st := .int a1 :: [.int (0 : Int32), zr G x3]) ?_
    refine z_i2l F dL_beliefs_8 ?_
    refine z_last F t3 dL_beliefs_9 hin ?_
    refine z_goto F 21 dL_beliefs_10 rfl ?_
    refine z_iconst (y := (0 : Int32)) F dL_beliefs_21 rfl ?_
    exact z_reti F hr hk dL_beliefs_22
  · cases he
    have hM9 := kX9_beliefs x.2.1 G x0 t0 x1 x2 v 1 a1 w hfl9 hq
    refine z_xcallC F (E := "java/util/NoSuchElementException") (cd := 0) [] ⟨0, 10, 13, 28⟩ [⟨0, 10, 17, 13⟩] htab rfl (fun z hz => absurd hz List.not_mem_nil) (by decide) (by decide) zck_L_28 zcc_N [.int x1, .int x2] [.int (0 : Int32), zr G x3] hM9 mI_X9_beliefs (c := 9) rfl t0 wM_L_70 mi_X9_beliefs sl_X9_beliefs dL_beliefs_5 rfl ⟨Nat.le_of_ble_eq_true rfl, Nat.le_of_ble_eq_true rfl⟩ rfl (Nat.le_of_ble_eq_true rfl) ⟨Nat.le_trans (Nat.le_of_ble_eq_true rfl) hcs.1, Nat.le_trans (Nat.le_of_ble_eq_true rfl) hcs.2⟩ (fun q => ?_)
    refine z_astore (n := 0) F [(4, .ref q), (0, zr G x0), (1, .int x1), (2, .int x2), (3, zr G x3)] dL_beliefs_13 (Nat.le_of_ble_eq_true rfl) rfl ?_
    refine z_iconst (y := (1 : Int32)) F dL_beliefs_15 rfl ?_
    exact z_reti F hr hk dL_beliefs_16
  · cases he
    have hM9 := kX9_beliefs x.2.1 G x0 t0 x1 x2 v (c1 + 2) a1 w hfl9 hq
    refine z_xcallC F (E := "java/lang/IllegalArgumentException") (cd := c1 + 1) [⟨0, 10, 13, 28⟩] ⟨0, 10, 17, 13⟩ [] htab (zEx2 c1) (fun z hz => by
      rw [List.mem_singleton] at hz
      subst hz
      exact ⟨by decide, "java/util/NoSuchElementException", zck_L_28, z_nc F.2.2.2.2.2.2.2.2⟩) (by decide) (by decide) zck_L_13 zcc_A [.int x1, .int x2] [.int (0 : Int32), zr G x3] hM9 mI_X9_beliefs (c := 9) rfl t0 wM_L_70 mi_X9_beliefs sl_X9_beliefs dL_beliefs_5 rfl ⟨Nat.le_of_ble_eq_true rfl, Nat.le_of_ble_eq_true rfl⟩ rfl (Nat.le_of_ble_eq_true rfl) ⟨Nat.le_trans (Nat.le_of_ble_eq_true rfl) hcs.1, Nat.le_trans (Nat.le_of_ble_eq_true rfl) hcs.2⟩ (fun q => ?_)
    refine z_astore (n := 0) F [(4, .ref q), (0, zr G x0), (1, .int x1), (2, .int x2), (3, zr G x3)] dL_beliefs_17 (Nat.le_of_ble_eq_true rfl) rfl ?_
    refine z_iconst (y := (2 : Int32)) F dL_beliefs_19 rfl ?_
    exact z_reti F hr hk dL_beliefs_20

set_option maxRecDepth 20000 in
theorem kw_L_sure : Cond.codeWith yL_sure cL_sure 5 (some .int) [((0 : Nat), (10 : Nat), (13 : Nat), (28 : Nat))] ∈ zTbl := zTbl_of (zin_6 (List.mem_of_getElem? (i := 30) rfl)) rfl
theorem dL_sure_0 : decode cL_sure 0 = .ok (.aload_n 3, 1) := by decide +kernel
theorem dL_sure_1 : decode cL_sure 1 = .ok (.iconst 0, 1) := by decide +kernel
theorem dL_sure_2 : decode cL_sure 2 = .ok (.aload_n 0, 1) := by decide +kernel
theorem dL_sure_3 : decode cL_sure 3 = .ok (.iload_n 1, 1) := by decide +kernel
theorem dL_sure_4 : decode cL_sure 4 = .ok (.iload_n 2, 1) := by decide +kernel
theorem dL_sure_5 : decode cL_sure 5 = .ok (.invokevirtual 73, 3) := by decide +kernel
theorem dL_sure_8 : decode cL_sure 8 = .ok (.i2l, 1) := by decide +kernel
theorem dL_sure_9 : decode cL_sure 9 = .ok (.lastore, 1) := by decide +kernel
theorem dL_sure_10 : decode cL_sure 10 = .ok (.goto 7, 3) := by decide +kernel
theorem dL_sure_13 : decode cL_sure 13 = .ok (.astore 4, 2) := by decide +kernel
theorem dL_sure_15 : decode cL_sure 15 = .ok (.iconst 1, 1) := by decide +kernel
theorem dL_sure_16 : decode cL_sure 16 = .ok (.ireturn, 1) := by decide +kernel
theorem dL_sure_17 : decode cL_sure 17 = .ok (.iconst 0, 1) := by decide +kernel
theorem dL_sure_18 : decode cL_sure 18 = .ok (.ireturn, 1) := by decide +kernel
def fL_sure (x0 : Nat) (x1 : Int32) (x2 : Int32) (x3 : Nat) (v : zV) : Option (Int32 × zV) := zcatch (fX9_sure x0 x1 x2 v) x3 (some 1) none
set_option maxRecDepth 4000 in
theorem kL_sure (l : Launch) (G : zG) (x0 : Nat) (t0 : zty G x0 1 9) (x1 : Int32) (x2 : Int32) (x3 : Nat) (t3 : zty G x3 2 2) (v : zV) (r : Int32) (w : zV) (hfl9 : l.stackTraces = false) (h : fL_sure x0 x1 x2 x3 v = some (r, w)) : zMetW l yL_sure cL_sure 5 (some .int) [((0 : Nat), (10 : Nat), (13 : Nat), (28 : Nat))] 9 263 2 12 [zr G x0, .int x1, .int x2, zr G x3] G v (some (.int r)) w := by
  refine zMW_of (own := RL) (by decide) rfl (Nat.le_of_ble_eq_true rfl) (fun x hl F hr hk hcs htab => ?_)
  subst hl
  refine z_ls [(0, zr G x0), (1, .int x1), (2, .int x2), (3, zr G x3)] [0, 1, 2, 3] rfl ?_
  refine z_aload_n F dL_sure_0 rfl 3 rfl ?_
  refine z_iconst (y := (0 : Int32)) F dL_sure_1 rfl ?_
  refine z_aload_n F dL_sure_2 rfl 0 rfl ?_
  refine z_iload_n F dL_sure_3 rfl 1 rfl ?_
  refine z_iload_n F dL_sure_4 rfl 2 rfl ?_
  rcases zcatch_ex h with ⟨a1, v1, hq, hin, rfl, rfl⟩ | ⟨a1, hq, he⟩ | ⟨c1, a1, hq, he⟩
  · have hM9 := kX9_sure x.2.1 G x0 t0 x1 x2 v 0 a1 v1 hfl9 hq
    refine z_xcall0 F [.int x1, .int x2] [.int (0 : Int32), zr G x3] hM9 mI_X9_sure (c := 9) rfl t0 wM_L_73 mi_X9_sure sl_X9_sure dL_sure_5 rfl ⟨Nat.le_of_ble_eq_true rfl, Nat.le_of_ble_eq_true rfl⟩ rfl (Nat.le_of_ble_eq_true rfl) ⟨Nat.le_trans (Nat.le_of_ble_eq_true rfl) hcs.1, Nat.le_trans (Nat.le_of_ble_eq_true rfl) hcs.2⟩ ?_
    refine z_id (st := .int a1 :: [.int (0 : Int32), zr G x3]) ?_
    refine z_i2l F dL_sure_8 ?_
    refine z_last F t3 dL_sure_9 hin ?_
    refine z_goto F 17 dL_sure_10 rfl ?_
    refine z_iconst (y := (0 : Int32)) F dL_sure_17 rfl ?_
    exact z_reti F hr hk dL_sure_18
  · cases he
    have hM9 := kX9_sure x.2.1 G x0 t0 x1 x2 v 1 a1 w hfl9 hq
    refine z_xcallC F (E := "java/util/NoSuchElementException") (cd := 0) [] ⟨0, 10, 13, 28⟩ [] htab rfl (fun z hz => absurd hz List.not_mem_nil) (by decide) (by decide) zck_L_28 zcc_N [.int x1, .int x2] [.int (0 : Int32), zr G x3] hM9 mI_X9_sure (c := 9) rfl t0 wM_L_73 mi_X9_sure sl_X9_sure dL_sure_5 rfl ⟨Nat.le_of_ble_eq_true rfl, Nat.le_of_ble_eq_true rfl⟩ rfl (Nat.le_of_ble_eq_true rfl) ⟨Nat.le_trans (Nat.le_of_ble_eq_true rfl) hcs.1, Nat.le_trans (Nat.le_of_ble_eq_true rfl) hcs.2⟩ (fun q => ?_)
    refine z_astore (n := 0) F [(4, .ref q), (0, zr G x0), (1, .int x1), (2, .int x2), (3, zr G x3)] dL_sure_13 (Nat.le_of_ble_eq_true rfl) rfl ?_
    refine z_iconst (y := (1 : Int32)) F dL_sure_15 rfl ?_
    exact z_reti F hr hk dL_sure_16
  · cases he

set_option maxRecDepth 20000 in
theorem kw_L_dead : Cond.codeWith yL_dead cL_dead 4 (some .int) [((0 : Nat), (9 : Nat), (12 : Nat), (13 : Nat))] ∈ zTbl := zTbl_of (zin_6 (List.mem_of_getElem? (i := 41) rfl)) rfl
theorem dL_dead_0 : decode cL_dead 0 = .ok (.aload_n 2, 1) := by decide +kernel
theorem dL_dead_1 : decode cL_dead 1 = .ok (.iconst 0, 1) := by decide +kernel
theorem dL_dead_2 : decode cL_dead 2 = .ok (.aload_n 0, 1) := by decide +kernel
theorem dL_dead_3 : decode cL_dead 3 = .ok (.iload_n 1, 1) := by decide +kernel
theorem dL_dead_4 : decode cL_dead 4 = .ok (.invokevirtual 76, 3) := by decide +kernel
theorem dL_dead_7 : decode cL_dead 7 = .ok (.i2l, 1) := by decide +kernel
theorem dL_dead_8 : decode cL_dead 8 = .ok (.lastore, 1) := by decide +kernel
theorem dL_dead_9 : decode cL_dead 9 = .ok (.goto 6, 3) := by decide +kernel
theorem dL_dead_12 : decode cL_dead 12 = .ok (.astore_n 3, 1) := by decide +kernel
theorem dL_dead_13 : decode cL_dead 13 = .ok (.iconst 1, 1) := by decide +kernel
theorem dL_dead_14 : decode cL_dead 14 = .ok (.ireturn, 1) := by decide +kernel
theorem dL_dead_15 : decode cL_dead 15 = .ok (.iconst 0, 1) := by decide +kernel
theorem dL_dead_16 : decode cL_dead 16 = .ok (.ireturn, 1) := by decide +kernel
def fL_dead (x0 : Nat) (x1 : Int32) (x2 : Nat) (v : zV) : Option (Int32 × zV) := zcatch (fX9_dead x0 x1 v) x2 none (some 1)
set_option maxRecDepth 4000 in
theorem kL_dead (l : Launch) (G : zG) (x0 : Nat) (t0 : zty G x0 1 9) (x1 : Int32) (x2 : Nat) (t2 : zty G x2 2 2) (v : zV) (r : Int32) (w : zV) (hfl9 : l.stackTraces = false) (h : fL_dead x0 x1 x2 v = some (r, w)) : zMetW l yL_dead cL_dead 4 (some .int) [((0 : Nat), (9 : Nat), (12 : Nat), (13 : Nat))] 9 261 1 6 [zr G x0, .int x1, zr G x2] G v (some (.int r)) w := by
  refine zMW_of (own := RL) (by decide) rfl (Nat.le_of_ble_eq_true rfl) (fun x hl F hr hk hcs htab => ?_)
  subst hl
  refine z_ls [(0, zr G x0), (1, .int x1), (2, zr G x2)] [0, 1, 2] rfl ?_
  refine z_aload_n F dL_dead_0 rfl 2 rfl ?_
  refine z_iconst (y := (0 : Int32)) F dL_dead_1 rfl ?_
  refine z_aload_n F dL_dead_2 rfl 0 rfl ?_
  refine z_iload_n F dL_dead_3 rfl 1 rfl ?_
  rcases zcatch_ex h with ⟨a1, v1, hq, hin, rfl, rfl⟩ | ⟨a1, hq, he⟩ | ⟨c1, a1, hq, he⟩
  · have hM9 := kX9_dead x.2.1 G x0 t0 x1 v 0 a1 v1 hfl9 hq
    refine z_xcall0 F [.int x1] [.int (0 : Int32), zr G x2] hM9 mI_X9_dead (c := 9) rfl t0 wM_L_76 mi_X9_dead sl_X9_dead dL_dead_4 rfl ⟨Nat.le_of_ble_eq_true rfl, Nat.le_of_ble_eq_true rfl⟩ rfl (Nat.le_of_ble_eq_true rfl) ⟨Nat.le_trans (Nat.le_of_ble_eq_true rfl) hcs.1, Nat.le_trans (Nat.le_of_ble_eq_true rfl) hcs.2⟩ ?_
    refine z_id (st := .int a1 :: [.int (0 : Int32), zr G x2]) ?_
    refine z_i2l F dL_dead_7 ?_
    refine z_last F t2 dL_dead_8 hin ?_
    refine z_goto F 15 dL_dead_9 rfl ?_
    refine z_iconst (y := (0 : Int32)) F dL_dead_15 rfl ?_
    exact z_reti F hr hk dL_dead_16
  · cases he
  · cases he
    have hM9 := kX9_dead x.2.1 G x0 t0 x1 v (c1 + 2) a1 w hfl9 hq
    refine z_xcallC F (E := "java/lang/IllegalArgumentException") (cd := c1 + 1) [] ⟨0, 9, 12, 13⟩ [] htab (zEx2 c1) (fun z hz => absurd hz List.not_mem_nil) (by decide) (by decide) zck_L_13 zcc_A [.int x1] [.int (0 : Int32), zr G x2] hM9 mI_X9_dead (c := 9) rfl t0 wM_L_76 mi_X9_dead sl_X9_dead dL_dead_4 rfl ⟨Nat.le_of_ble_eq_true rfl, Nat.le_of_ble_eq_true rfl⟩ rfl (Nat.le_of_ble_eq_true rfl) ⟨Nat.le_trans (Nat.le_of_ble_eq_true rfl) hcs.1, Nat.le_trans (Nat.le_of_ble_eq_true rfl) hcs.2⟩ (fun q => ?_)
    refine z_astore_n F [(3, .ref q), (0, zr G x0), (1, .int x1), (2, zr G x2)] dL_dead_12 rfl (Nat.le_of_ble_eq_true rfl) rfl ?_
    refine z_iconst (y := (1 : Int32)) F dL_dead_13 rfl ?_
    exact z_reti F hr hk dL_dead_14

set_option maxRecDepth 20000 in
theorem kw_L_enemy : Cond.codeWith yL_enemy cL_enemy 4 (some .int) [((0 : Nat), (9 : Nat), (12 : Nat), (28 : Nat))] ∈ zTbl := zTbl_of (zin_6 (List.mem_of_getElem? (i := 53) rfl)) rfl
theorem dL_enemy_0 : decode cL_enemy 0 = .ok (.aload_n 2, 1) := by decide +kernel
theorem dL_enemy_1 : decode cL_enemy 1 = .ok (.iconst 0, 1) := by decide +kernel
theorem dL_enemy_2 : decode cL_enemy 2 = .ok (.aload_n 0, 1) := by decide +kernel
theorem dL_enemy_3 : decode cL_enemy 3 = .ok (.iload_n 1, 1) := by decide +kernel
theorem dL_enemy_4 : decode cL_enemy 4 = .ok (.invokevirtual 79, 3) := by decide +kernel
theorem dL_enemy_7 : decode cL_enemy 7 = .ok (.i2l, 1) := by decide +kernel
theorem dL_enemy_8 : decode cL_enemy 8 = .ok (.lastore, 1) := by decide +kernel
theorem dL_enemy_9 : decode cL_enemy 9 = .ok (.goto 6, 3) := by decide +kernel
theorem dL_enemy_12 : decode cL_enemy 12 = .ok (.astore_n 3, 1) := by decide +kernel
theorem dL_enemy_13 : decode cL_enemy 13 = .ok (.iconst 1, 1) := by decide +kernel
theorem dL_enemy_14 : decode cL_enemy 14 = .ok (.ireturn, 1) := by decide +kernel
theorem dL_enemy_15 : decode cL_enemy 15 = .ok (.iconst 0, 1) := by decide +kernel
theorem dL_enemy_16 : decode cL_enemy 16 = .ok (.ireturn, 1) := by decide +kernel
def fL_enemy (x0 : Nat) (x1 : Int32) (x2 : Nat) (v : zV) : Option (Int32 × zV) := zcatch (fX9_enemy x0 x1 v) x2 (some 1) none
set_option maxRecDepth 4000 in
theorem kL_enemy (l : Launch) (G : zG) (x0 : Nat) (t0 : zty G x0 1 9) (x1 : Int32) (x2 : Nat) (t2 : zty G x2 2 2) (v : zV) (r : Int32) (w : zV) (hfl9 : l.stackTraces = false) (h : fL_enemy x0 x1 x2 v = some (r, w)) : zMetW l yL_enemy cL_enemy 4 (some .int) [((0 : Nat), (9 : Nat), (12 : Nat), (28 : Nat))] 8 170 1 6 [zr G x0, .int x1, zr G x2] G v (some (.int r)) w := by
  refine zMW_of (own := RL) (by decide) rfl (Nat.le_of_ble_eq_true rfl) (fun x hl F hr hk hcs htab => ?_)
  subst hl
  refine z_ls [(0, zr G x0), (1, .int x1), (2, zr G x2)] [0, 1, 2] rfl ?_
  refine z_aload_n F dL_enemy_0 rfl 2 rfl ?_
  refine z_iconst (y := (0 : Int32)) F dL_enemy_1 rfl ?_
  refine z_aload_n F dL_enemy_2 rfl 0 rfl ?_
  refine z_iload_n F dL_enemy_3 rfl 1 rfl ?_
  rcases zcatch_ex h with ⟨a1, v1, hq, hin, rfl, rfl⟩ | ⟨a1, hq, he⟩ | ⟨c1, a1, hq, he⟩
  · have hM9 := kX9_enemy x.2.1 G x0 t0 x1 v 0 a1 v1 hfl9 hq
    refine z_xcall0 F [.int x1] [.int (0 : Int32), zr G x2] hM9 mI_X9_enemy (c := 9) rfl t0 wM_L_79 mi_X9_enemy sl_X9_enemy dL_enemy_4 rfl ⟨Nat.le_of_ble_eq_true rfl, Nat.le_of_ble_eq_true rfl⟩ rfl (Nat.le_of_ble_eq_true rfl) ⟨Nat.le_trans (Nat.le_of_ble_eq_true rfl) hcs.1, Nat.le_trans (Nat.le_of_ble_eq_true rfl) hcs.2⟩ ?_
    refine z_id (st := .int a1 :: [.int (0 : Int32), zr G x2]) ?_
    refine z_i2l F dL_enemy_7 ?_
    refine z_last F t2 dL_enemy_8 hin ?_
    refine z_goto F 15 dL_enemy_9 rfl ?_
    refine z_iconst (y := (0 : Int32)) F dL_enemy_15 rfl ?_
    exact z_reti F hr hk dL_enemy_16
  · cases he
    have hM9 := kX9_enemy x.2.1 G x0 t0 x1 v 1 a1 w hfl9 hq
    refine z_xcallC F (E := "java/util/NoSuchElementException") (cd := 0) [] ⟨0, 9, 12, 28⟩ [] htab rfl (fun z hz => absurd hz List.not_mem_nil) (by decide) (by decide) zck_L_28 zcc_N [.int x1] [.int (0 : Int32), zr G x2] hM9 mI_X9_enemy (c := 9) rfl t0 wM_L_79 mi_X9_enemy sl_X9_enemy dL_enemy_4 rfl ⟨Nat.le_of_ble_eq_true rfl, Nat.le_of_ble_eq_true rfl⟩ rfl (Nat.le_of_ble_eq_true rfl) ⟨Nat.le_trans (Nat.le_of_ble_eq_true rfl) hcs.1, Nat.le_trans (Nat.le_of_ble_eq_true rfl) hcs.2⟩ (fun q => ?_)
    refine z_astore_n F [(3, .ref q), (0, zr G x0), (1, .int x1), (2, zr G x2)] dL_enemy_12 rfl (Nat.le_of_ble_eq_true rfl) rfl ?_
    refine z_iconst (y := (1 : Int32)) F dL_enemy_13 rfl ?_
    exact z_reti F hr hk dL_enemy_14
  · cases he

set_option maxRecDepth 20000 in
theorem kw_L_ring : Cond.codeWith yL_ring cL_ring 5 (some .int) [((0 : Nat), (10 : Nat), (13 : Nat), (28 : Nat)), ((0 : Nat), (10 : Nat), (17 : Nat), (13 : Nat))] ∈ zTbl := zTbl_of (zin_6 (List.mem_of_getElem? (i := 61) rfl)) rfl
theorem dL_ring_0 : decode cL_ring 0 = .ok (.aload_n 3, 1) := by decide +kernel
theorem dL_ring_1 : decode cL_ring 1 = .ok (.iconst 0, 1) := by decide +kernel
theorem dL_ring_2 : decode cL_ring 2 = .ok (.aload_n 0, 1) := by decide +kernel
theorem dL_ring_3 : decode cL_ring 3 = .ok (.iload_n 1, 1) := by decide +kernel
theorem dL_ring_4 : decode cL_ring 4 = .ok (.iload_n 2, 1) := by decide +kernel
theorem dL_ring_5 : decode cL_ring 5 = .ok (.invokevirtual 82, 3) := by decide +kernel
theorem dL_ring_8 : decode cL_ring 8 = .ok (.i2l, 1) := by decide +kernel
theorem dL_ring_9 : decode cL_ring 9 = .ok (.lastore, 1) := by decide +kernel
theorem dL_ring_10 : decode cL_ring 10 = .ok (.goto 11, 3) := by decide +kernel
theorem dL_ring_13 : decode cL_ring 13 = .ok (.astore 4, 2) := by decide +kernel
theorem dL_ring_15 : decode cL_ring 15 = .ok (.iconst 1, 1) := by decide +kernel
theorem dL_ring_16 : decode cL_ring 16 = .ok (.ireturn, 1) := by decide +kernel
theorem dL_ring_17 : decode cL_ring 17 = .ok (.astore 4, 2) := by decide +kernel
theorem dL_ring_19 : decode cL_ring 19 = .ok (.iconst 2, 1) := by decide +kernel
theorem dL_ring_20 : decode cL_ring 20 = .ok (.ireturn, 1) := by decide +kernel
theorem dL_ring_21 : decode cL_ring 21 = .ok (.iconst 0, 1) := by decide +kernel
theorem dL_ring_22 : decode cL_ring 22 = .ok (.ireturn, 1) := by decide +kernel
def fL_ring (x0 : Nat) (x1 : Int32) (x2 : Int32) (x3 : Nat) (v : zV) : Option (Int32 × zV) := zcatch (fX9_ring x0 x1 x2 v) x3 (some 1) (some 2)
set_option maxRecDepth 4000 in
theorem kL_ring (l : Launch) (G : zG) (x0 : Nat) (t0 : zty G x0 1 9) (x1 : Int32) (x2 : Int32) (x3 : Nat) (t3 : zty G x3 2 2) (v : zV) (r : Int32) (w : zV) (hfl9 : l.stackTraces = false) (h : fL_ring x0 x1 x2 x3 v = some (r, w)) : zMetW l yL_ring cL_ring 5 (some .int) [((0 : Nat), (10 : Nat), (13 : Nat), (28 : Nat)), ((0 : Nat), (10 : Nat), (17 : Nat), (13 : Nat))] 8 198 2 12 [zr G x0, .int x1, .int x2, zr G x3] G v (some (.int r)) w := by
  refine zMW_of (own := RL) (by decide) rfl (Nat.le_of_ble_eq_true rfl) (fun x hl F hr hk hcs htab => ?_)
  subst hl
  refine z_ls [(0, zr G x0), (1, .int x1), (2, .int x2), (3, zr G x3)] [0, 1, 2, 3] rfl ?_
  refine z_aload_n F dL_ring_0 rfl 3 rfl ?_
  refine z_iconst (y := (0 : Int32)) F dL_ring_1 rfl ?_
  refine z_aload_n F dL_ring_2 rfl 0 rfl ?_
  refine z_iload_n F dL_ring_3 rfl 1 rfl ?_
  refine z_iload_n F dL_ring_4 rfl 2 rfl ?_
  rcases zcatch_ex h with ⟨a1, v1, hq, hin, rfl, rfl⟩ | ⟨a1, hq, he⟩ | ⟨c1, a1, hq, he⟩
  · have hM9 := kX9_ring x.2.1 G x0 t0 x1 x2 v 0 a1 v1 hfl9 hq
    refine z_xcall0 F [.int x1, .int x2] [.int (0 : Int32), zr G x3] hM9 mI_X9_ring (c := 9) rfl t0 wM_L_82 mi_X9_ring sl_X9_ring dL_ring_5 rfl ⟨Nat.le_of_ble_eq_true rfl, Nat.le_of_ble_eq_true rfl⟩ rfl (Nat.le_of_ble_eq_true rfl) ⟨Nat.le_trans (Nat.le_of_ble_eq_true rfl) hcs.1, Nat.le_trans (Nat.le_of_ble_eq_true rfl) hcs.2⟩ ?_
    refine z_id (st := .int a1 :: [.int (0 : Int32), zr G x3]) ?_
    refine z_i2l F dL_ring_8 ?_
    refine z_last F t3 dL_ring_9 hin ?_
    refine z_goto F 21 dL_ring_10 rfl ?_
    refine z_iconst (y := (0 : Int32)) F dL_ring_21 rfl ?_
    exact z_reti F hr hk dL_ring_22
  · cases he
    have hM9 := kX9_ring x.2.1 G x0 t0 x1 x2 v 1 a1 w hfl9 hq
    refine z_xcallC F (E := "java/util/NoSuchElementException") (cd := 0) [] ⟨0, 10, 13, 28⟩ [⟨0, 10, 17, 13⟩] htab rfl (fun z hz => absurd hz List.not_mem_nil) (by decide) (by decide) zck_L_28 zcc_N [.int x1, .int x2] [.int (0 : Int32), zr G x3] hM9 mI_X9_ring (c := 9) rfl t0 wM_L_82 mi_X9_ring sl_X9_ring dL_ring_5 rfl ⟨Nat.le_of_ble_eq_true rfl, Nat.le_of_ble_eq_true rfl⟩ rfl (Nat.le_of_ble_eq_true rfl) ⟨Nat.le_trans (Nat.le_of_ble_eq_true rfl) hcs.1, Nat.le_trans (Nat.le_of_ble_eq_true rfl) hcs.2⟩ (fun q => ?_)
    refine z_astore (n := 0) F [(4, .ref q), (0, zr G x0), (1, .int x1), (2, .int x2), (3, zr G x3)] dL_ring_13 (Nat.le_of_ble_eq_true rfl) rfl ?_
    refine z_iconst (y := (1 : Int32)) F dL_ring_15 rfl ?_
    exact z_reti F hr hk dL_ring_16
  · cases he
    have hM9 := kX9_ring x.2.1 G x0 t0 x1 x2 v (c1 + 2) a1 w hfl9 hq
    refine z_xcallC F (E := "java/lang/IllegalArgumentException") (cd := c1 + 1) [⟨0, 10, 13, 28⟩] ⟨0, 10, 17, 13⟩ [] htab (zEx2 c1) (fun z hz => by
      rw [List.mem_singleton] at hz
      subst hz
      exact ⟨by decide, "java/util/NoSuchElementException", zck_L_28, z_nc F.2.2.2.2.2.2.2.2⟩) (by decide) (by decide) zck_L_13 zcc_A [.int x1, .int x2] [.int (0 : Int32), zr G x3] hM9 mI_X9_ring (c := 9) rfl t0 wM_L_82 mi_X9_ring sl_X9_ring dL_ring_5 rfl ⟨Nat.le_of_ble_eq_true rfl, Nat.le_of_ble_eq_true rfl⟩ rfl (Nat.le_of_ble_eq_true rfl) ⟨Nat.le_trans (Nat.le_of_ble_eq_true rfl) hcs.1, Nat.le_trans (Nat.le_of_ble_eq_true rfl) hcs.2⟩ (fun q => ?_)
    refine z_astore (n := 0) F [(4, .ref q), (0, zr G x0), (1, .int x1), (2, .int x2), (3, zr G x3)] dL_ring_17 (Nat.le_of_ble_eq_true rfl) rfl ?_
    refine z_iconst (y := (2 : Int32)) F dL_ring_19 rfl ?_
    exact z_reti F hr hk dL_ring_20

set_option maxRecDepth 20000 in
theorem kw_L_vote : Cond.codeWith yL_vote cL_vote 6 (some .int) [((0 : Nat), (12 : Nat), (15 : Nat), (28 : Nat)), ((0 : Nat), (12 : Nat), (19 : Nat), (13 : Nat))] ∈ zTbl := zTbl_of (zin_6 (List.mem_of_getElem? (i := 73) rfl)) rfl
theorem dL_vote_0 : decode cL_vote 0 = .ok (.aload 4, 2) := by decide +kernel
theorem dL_vote_2 : decode cL_vote 2 = .ok (.iconst 0, 1) := by decide +kernel
theorem dL_vote_3 : decode cL_vote 3 = .ok (.aload_n 0, 1) := by decide +kernel
theorem dL_vote_4 : decode cL_vote 4 = .ok (.iload_n 1, 1) := by decide +kernel
theorem dL_vote_5 : decode cL_vote 5 = .ok (.iload_n 2, 1) := by decide +kernel
theorem dL_vote_6 : decode cL_vote 6 = .ok (.iload_n 3, 1) := by decide +kernel
theorem dL_vote_7 : decode cL_vote 7 = .ok (.invokevirtual 85, 3) := by decide +kernel
theorem dL_vote_10 : decode cL_vote 10 = .ok (.i2l, 1) := by decide +kernel
theorem dL_vote_11 : decode cL_vote 11 = .ok (.lastore, 1) := by decide +kernel
theorem dL_vote_12 : decode cL_vote 12 = .ok (.goto 11, 3) := by decide +kernel
theorem dL_vote_15 : decode cL_vote 15 = .ok (.astore 5, 2) := by decide +kernel
theorem dL_vote_17 : decode cL_vote 17 = .ok (.iconst 1, 1) := by decide +kernel
theorem dL_vote_18 : decode cL_vote 18 = .ok (.ireturn, 1) := by decide +kernel
theorem dL_vote_19 : decode cL_vote 19 = .ok (.astore 5, 2) := by decide +kernel
theorem dL_vote_21 : decode cL_vote 21 = .ok (.iconst 2, 1) := by decide +kernel
theorem dL_vote_22 : decode cL_vote 22 = .ok (.ireturn, 1) := by decide +kernel
theorem dL_vote_23 : decode cL_vote 23 = .ok (.iconst 0, 1) := by decide +kernel
theorem dL_vote_24 : decode cL_vote 24 = .ok (.ireturn, 1) := by decide +kernel
def fL_vote (x0 : Nat) (x1 : Int32) (x2 : Int32) (x3 : Int32) (x4 : Nat) (v : zV) : Option (Int32 × zV) := zcatch (fX9_vote x0 x1 x2 x3 v) x4 (some 1) (some 2)
set_option maxRecDepth 4000 in
theorem kL_vote (l : Launch) (G : zG) (x0 : Nat) (t0 : zty G x0 1 9) (x1 : Int32) (x2 : Int32) (x3 : Int32) (x4 : Nat) (t4 : zty G x4 2 2) (v : zV) (r : Int32) (w : zV) (hfl9 : l.stackTraces = false) (h : fL_vote x0 x1 x2 x3 x4 v = some (r, w)) : zMetW l yL_vote cL_vote 6 (some .int) [((0 : Nat), (12 : Nat), (15 : Nat), (28 : Nat)), ((0 : Nat), (12 : Nat), (19 : Nat), (13 : Nat))] 8 215 3 18 [zr G x0, .int x1, .int x2, .int x3, zr G x4] G v (some (.int r)) w := by
  refine zMW_of (own := RL) (by decide) rfl (Nat.le_of_ble_eq_true rfl) (fun x hl F hr hk hcs htab => ?_)
  subst hl
  refine z_ls [(0, zr G x0), (1, .int x1), (2, .int x2), (3, .int x3), (4, zr G x4)] [0, 1, 2, 3, 4] rfl ?_
  refine z_aload F dL_vote_0 4 rfl ?_
  refine z_iconst (y := (0 : Int32)) F dL_vote_2 rfl ?_
  refine z_aload_n F dL_vote_3 rfl 0 rfl ?_
  refine z_iload_n F dL_vote_4 rfl 1 rfl ?_
  refine z_iload_n F dL_vote_5 rfl 2 rfl ?_
  refine z_iload_n F dL_vote_6 rfl 3 rfl ?_
  rcases zcatch_ex h with ⟨a1, v1, hq, hin, rfl, rfl⟩ | ⟨a1, hq, he⟩ | ⟨c1, a1, hq, he⟩
  · have hM9 := kX9_vote x.2.1 G x0 t0 x1 x2 x3 v 0 a1 v1 hfl9 hq
    refine z_xcall0 F [.int x1, .int x2, .int x3] [.int (0 : Int32), zr G x4] hM9 mI_X9_vote (c := 9) rfl t0 wM_L_85 mi_X9_vote sl_X9_vote dL_vote_7 rfl ⟨Nat.le_of_ble_eq_true rfl, Nat.le_of_ble_eq_true rfl⟩ rfl (Nat.le_of_ble_eq_true rfl) ⟨Nat.le_trans (Nat.le_of_ble_eq_true rfl) hcs.1, Nat.le_trans (Nat.le_of_ble_eq_true rfl) hcs.2⟩ ?_
    refine z_id (st := .int a1 :: [.int (0 : Int32), zr G x4]) ?_
    refine z_i2l F dL_vote_10 ?_
    refine z_last F t4 dL_vote_11 hin ?_
    refine z_goto F 23 dL_vote_12 rfl ?_
    refine z_iconst (y := (0 : Int32)) F dL_vote_23 rfl ?_
    exact z_reti F hr hk dL_vote_24
  · cases he
    have hM9 := kX9_vote x.2.1 G x0 t0 x1 x2 x3 v 1 a1 w hfl9 hq
    refine z_xcallC F (E := "java/util/NoSuchElementException") (cd := 0) [] ⟨0, 12, 15, 28⟩ [⟨0, 12, 19, 13⟩] htab rfl (fun z hz => absurd hz List.not_mem_nil) (by decide) (by decide) zck_L_28 zcc_N [.int x1, .int x2, .int x3] [.int (0 : Int32), zr G x4] hM9 mI_X9_vote (c := 9) rfl t0 wM_L_85 mi_X9_vote sl_X9_vote dL_vote_7 rfl ⟨Nat.le_of_ble_eq_true rfl, Nat.le_of_ble_eq_true rfl⟩ rfl (Nat.le_of_ble_eq_true rfl) ⟨Nat.le_trans (Nat.le_of_ble_eq_true rfl) hcs.1, Nat.le_trans (Nat.le_of_ble_eq_true rfl) hcs.2⟩ (fun q => ?_)
    refine z_astore (n := 0) F [(5, .ref q), (0, zr G x0), (1, .int x1), (2, .int x2), (3, .int x3), (4, zr G x4)] dL_vote_15 (Nat.le_of_ble_eq_true rfl) rfl ?_
    refine z_iconst (y := (1 : Int32)) F dL_vote_17 rfl ?_
    exact z_reti F hr hk dL_vote_18
  · cases he
    have hM9 := kX9_vote x.2.1 G x0 t0 x1 x2 x3 v (c1 + 2) a1 w hfl9 hq
    refine z_xcallC F (E := "java/lang/IllegalArgumentException") (cd := c1 + 1) [⟨0, 12, 15, 28⟩] ⟨0, 12, 19, 13⟩ [] htab (zEx2 c1) (fun z hz => by
      rw [List.mem_singleton] at hz
      subst hz
      exact ⟨by decide, "java/util/NoSuchElementException", zck_L_28, z_nc F.2.2.2.2.2.2.2.2⟩) (by decide) (by decide) zck_L_13 zcc_A [.int x1, .int x2, .int x3] [.int (0 : Int32), zr G x4] hM9 mI_X9_vote (c := 9) rfl t0 wM_L_85 mi_X9_vote sl_X9_vote dL_vote_7 rfl ⟨Nat.le_of_ble_eq_true rfl, Nat.le_of_ble_eq_true rfl⟩ rfl (Nat.le_of_ble_eq_true rfl) ⟨Nat.le_trans (Nat.le_of_ble_eq_true rfl) hcs.1, Nat.le_trans (Nat.le_of_ble_eq_true rfl) hcs.2⟩ (fun q => ?_)
    refine z_astore (n := 0) F [(5, .ref q), (0, zr G x0), (1, .int x1), (2, .int x2), (3, .int x3), (4, zr G x4)] dL_vote_19 (Nat.le_of_ble_eq_true rfl) rfl ?_
    refine z_iconst (y := (2 : Int32)) F dL_vote_21 rfl ?_
    exact z_reti F hr hk dL_vote_22

set_option maxRecDepth 20000 in
theorem kw_L_skip : Cond.codeWith yL_skip cL_skip 4 (some .int) [((0 : Nat), (9 : Nat), (12 : Nat), (28 : Nat))] ∈ zTbl := zTbl_of (zin_6 (List.mem_of_getElem? (i := 103) rfl)) rfl
theorem dL_skip_0 : decode cL_skip 0 = .ok (.aload_n 2, 1) := by decide +kernel
theorem dL_skip_1 : decode cL_skip 1 = .ok (.iconst 0, 1) := by decide +kernel
theorem dL_skip_2 : decode cL_skip 2 = .ok (.aload_n 0, 1) := by decide +kernel
theorem dL_skip_3 : decode cL_skip 3 = .ok (.iload_n 1, 1) := by decide +kernel
theorem dL_skip_4 : decode cL_skip 4 = .ok (.invokevirtual 89, 3) := by decide +kernel
theorem dL_skip_7 : decode cL_skip 7 = .ok (.i2l, 1) := by decide +kernel
theorem dL_skip_8 : decode cL_skip 8 = .ok (.lastore, 1) := by decide +kernel
theorem dL_skip_9 : decode cL_skip 9 = .ok (.goto 6, 3) := by decide +kernel
theorem dL_skip_12 : decode cL_skip 12 = .ok (.astore_n 3, 1) := by decide +kernel
theorem dL_skip_13 : decode cL_skip 13 = .ok (.iconst 1, 1) := by decide +kernel
theorem dL_skip_14 : decode cL_skip 14 = .ok (.ireturn, 1) := by decide +kernel
theorem dL_skip_15 : decode cL_skip 15 = .ok (.iconst 0, 1) := by decide +kernel
theorem dL_skip_16 : decode cL_skip 16 = .ok (.ireturn, 1) := by decide +kernel
def fL_skip (x0 : Nat) (x1 : Int32) (x2 : Nat) (v : zV) : Option (Int32 × zV) := zcatch (fX9_skip x0 x1 v) x2 (some 1) none
set_option maxRecDepth 4000 in
theorem kL_skip (l : Launch) (G : zG) (x0 : Nat) (t0 : zty G x0 1 9) (x1 : Int32) (x2 : Nat) (t2 : zty G x2 2 2) (v : zV) (r : Int32) (w : zV) (hfl9 : l.stackTraces = false) (h : fL_skip x0 x1 x2 v = some (r, w)) : zMetW l yL_skip cL_skip 4 (some .int) [((0 : Nat), (9 : Nat), (12 : Nat), (28 : Nat))] 8 192 1 6 [zr G x0, .int x1, zr G x2] G v (some (.int r)) w := by
  refine zMW_of (own := RL) (by decide) rfl (Nat.le_of_ble_eq_true rfl) (fun x hl F hr hk hcs htab => ?_)
  subst hl
  refine z_ls [(0, zr G x0), (1, .int x1), (2, zr G x2)] [0, 1, 2] rfl ?_
  refine z_aload_n F dL_skip_0 rfl 2 rfl ?_
  refine z_iconst (y := (0 : Int32)) F dL_skip_1 rfl ?_
  refine z_aload_n F dL_skip_2 rfl 0 rfl ?_
  refine z_iload_n F dL_skip_3 rfl 1 rfl ?_
  rcases zcatch_ex h with ⟨a1, v1, hq, hin, rfl, rfl⟩ | ⟨a1, hq, he⟩ | ⟨c1, a1, hq, he⟩
  · have hM9 := kX9_skip x.2.1 G x0 t0 x1 v 0 a1 v1 hfl9 hq
    refine z_xcall0 F [.int x1] [.int (0 : Int32), zr G x2] hM9 mI_X9_skip (c := 9) rfl t0 wM_L_89 mi_X9_skip sl_X9_skip dL_skip_4 rfl ⟨Nat.le_of_ble_eq_true rfl, Nat.le_of_ble_eq_true rfl⟩ rfl (Nat.le_of_ble_eq_true rfl) ⟨Nat.le_trans (Nat.le_of_ble_eq_true rfl) hcs.1, Nat.le_trans (Nat.le_of_ble_eq_true rfl) hcs.2⟩ ?_
    refine z_id (st := .int a1 :: [.int (0 : Int32), zr G x2]) ?_
    refine z_i2l F dL_skip_7 ?_
    refine z_last F t2 dL_skip_8 hin ?_
    refine z_goto F 15 dL_skip_9 rfl ?_
    refine z_iconst (y := (0 : Int32)) F dL_skip_15 rfl ?_
    exact z_reti F hr hk dL_skip_16
  · cases he
    have hM9 := kX9_skip x.2.1 G x0 t0 x1 v 1 a1 w hfl9 hq
    refine z_xcallC F (E := "java/util/NoSuchElementException") (cd := 0) [] ⟨0, 9, 12, 28⟩ [] htab rfl (fun z hz => absurd hz List.not_mem_nil) (by decide) (by decide) zck_L_28 zcc_N [.int x1] [.int (0 : Int32), zr G x2] hM9 mI_X9_skip (c := 9) rfl t0 wM_L_89 mi_X9_skip sl_X9_skip dL_skip_4 rfl ⟨Nat.le_of_ble_eq_true rfl, Nat.le_of_ble_eq_true rfl⟩ rfl (Nat.le_of_ble_eq_true rfl) ⟨Nat.le_trans (Nat.le_of_ble_eq_true rfl) hcs.1, Nat.le_trans (Nat.le_of_ble_eq_true rfl) hcs.2⟩ (fun q => ?_)
    refine z_astore_n F [(3, .ref q), (0, zr G x0), (1, .int x1), (2, zr G x2)] dL_skip_12 rfl (Nat.le_of_ble_eq_true rfl) rfl ?_
    refine z_iconst (y := (1 : Int32)) F dL_skip_13 rfl ?_
    exact z_reti F hr hk dL_skip_14
  · cases he

set_option maxRecDepth 20000 in
theorem kw_L_flip : Cond.codeWith yL_flip cL_flip 4 (some .int) [((0 : Nat), (9 : Nat), (12 : Nat), (28 : Nat))] ∈ zTbl := zTbl_of (zin_6 (List.mem_of_getElem? (i := 115) rfl)) rfl
theorem dL_flip_0 : decode cL_flip 0 = .ok (.aload_n 2, 1) := by decide +kernel
theorem dL_flip_1 : decode cL_flip 1 = .ok (.iconst 0, 1) := by decide +kernel
theorem dL_flip_2 : decode cL_flip 2 = .ok (.aload_n 0, 1) := by decide +kernel
theorem dL_flip_3 : decode cL_flip 3 = .ok (.iload_n 1, 1) := by decide +kernel
theorem dL_flip_4 : decode cL_flip 4 = .ok (.invokevirtual 92, 3) := by decide +kernel
theorem dL_flip_7 : decode cL_flip 7 = .ok (.i2l, 1) := by decide +kernel
theorem dL_flip_8 : decode cL_flip 8 = .ok (.lastore, 1) := by decide +kernel
theorem dL_flip_9 : decode cL_flip 9 = .ok (.goto 6, 3) := by decide +kernel
theorem dL_flip_12 : decode cL_flip 12 = .ok (.astore_n 3, 1) := by decide +kernel
theorem dL_flip_13 : decode cL_flip 13 = .ok (.iconst 1, 1) := by decide +kernel
theorem dL_flip_14 : decode cL_flip 14 = .ok (.ireturn, 1) := by decide +kernel
theorem dL_flip_15 : decode cL_flip 15 = .ok (.iconst 0, 1) := by decide +kernel
theorem dL_flip_16 : decode cL_flip 16 = .ok (.ireturn, 1) := by decide +kernel
def fL_flip (x0 : Nat) (x1 : Int32) (x2 : Nat) (v : zV) : Option (Int32 × zV) := zcatch (fX9_flip x0 x1 v) x2 (some 1) none
set_option maxRecDepth 4000 in
theorem kL_flip (l : Launch) (G : zG) (x0 : Nat) (t0 : zty G x0 1 9) (x1 : Int32) (x2 : Nat) (t2 : zty G x2 2 2) (v : zV) (r : Int32) (w : zV) (hfl9 : l.stackTraces = false) (h : fL_flip x0 x1 x2 v = some (r, w)) : zMetW l yL_flip cL_flip 4 (some .int) [((0 : Nat), (9 : Nat), (12 : Nat), (28 : Nat))] 8 238 1 6 [zr G x0, .int x1, zr G x2] G v (some (.int r)) w := by
  refine zMW_of (own := RL) (by decide) rfl (Nat.le_of_ble_eq_true rfl) (fun x hl F hr hk hcs htab => ?_)
  subst hl
  refine z_ls [(0, zr G x0), (1, .int x1), (2, zr G x2)] [0, 1, 2] rfl ?_
  refine z_aload_n F dL_flip_0 rfl 2 rfl ?_
  refine z_iconst (y := (0 : Int32)) F dL_flip_1 rfl ?_
  refine z_aload_n F dL_flip_2 rfl 0 rfl ?_
  refine z_iload_n F dL_flip_3 rfl 1 rfl ?_
  rcases zcatch_ex h with ⟨a1, v1, hq, hin, rfl, rfl⟩ | ⟨a1, hq, he⟩ | ⟨c1, a1, hq, he⟩
  · have hM9 := kX9_flip x.2.1 G x0 t0 x1 v 0 a1 v1 hfl9 hq
    refine z_xcall0 F [.int x1] [.int (0 : Int32), zr G x2] hM9 mI_X9_flip (c := 9) rfl t0 wM_L_92 mi_X9_flip sl_X9_flip dL_flip_4 rfl ⟨Nat.le_of_ble_eq_true rfl, Nat.le_of_ble_eq_true rfl⟩ rfl (Nat.le_of_ble_eq_true rfl) ⟨Nat.le_trans (Nat.le_of_ble_eq_true rfl) hcs.1, Nat.le_trans (Nat.le_of_ble_eq_true rfl) hcs.2⟩ ?_
    refine z_id (st := .int a1 :: [.int (0 : Int32), zr G x2]) ?_
    refine z_i2l F dL_flip_7 ?_
    refine z_last F t2 dL_flip_8 hin ?_
    refine z_goto F 15 dL_flip_9 rfl ?_
    refine z_iconst (y := (0 : Int32)) F dL_flip_15 rfl ?_
    exact z_reti F hr hk dL_flip_16
  · cases he
    have hM9 := kX9_flip x.2.1 G x0 t0 x1 v 1 a1 w hfl9 hq
    refine z_xcallC F (E := "java/util/NoSuchElementException") (cd := 0) [] ⟨0, 9, 12, 28⟩ [] htab rfl (fun z hz => absurd hz List.not_mem_nil) (by decide) (by decide) zck_L_28 zcc_N [.int x1] [.int (0 : Int32), zr G x2] hM9 mI_X9_flip (c := 9) rfl t0 wM_L_92 mi_X9_flip sl_X9_flip dL_flip_4 rfl ⟨Nat.le_of_ble_eq_true rfl, Nat.le_of_ble_eq_true rfl⟩ rfl (Nat.le_of_ble_eq_true rfl) ⟨Nat.le_trans (Nat.le_of_ble_eq_true rfl) hcs.1, Nat.le_trans (Nat.le_of_ble_eq_true rfl) hcs.2⟩ (fun q => ?_)
    refine z_astore_n F [(3, .ref q), (0, zr G x0), (1, .int x1), (2, zr G x2)] dL_flip_12 rfl (Nat.le_of_ble_eq_true rfl) rfl ?_
    refine z_iconst (y := (1 : Int32)) F dL_flip_13 rfl ?_
    exact z_reti F hr hk dL_flip_14
  · cases he

set_option maxRecDepth 20000 in
theorem kw_L_patrons : Cond.codeWith yL_patrons cL_patrons 7 (some .int) [((0 : Nat), (14 : Nat), (17 : Nat), (28 : Nat)), ((0 : Nat), (14 : Nat), (21 : Nat), (13 : Nat))] ∈ zTbl := zTbl_of (zin_6 (List.mem_of_getElem? (i := 131) rfl)) rfl
theorem dL_patrons_0 : decode cL_patrons 0 = .ok (.aload 5, 2) := by decide +kernel
theorem dL_patrons_2 : decode cL_patrons 2 = .ok (.iconst 0, 1) := by decide +kernel
theorem dL_patrons_3 : decode cL_patrons 3 = .ok (.aload_n 0, 1) := by decide +kernel
theorem dL_patrons_4 : decode cL_patrons 4 = .ok (.iload_n 1, 1) := by decide +kernel
theorem dL_patrons_5 : decode cL_patrons 5 = .ok (.iload_n 2, 1) := by decide +kernel
theorem dL_patrons_6 : decode cL_patrons 6 = .ok (.iload_n 3, 1) := by decide +kernel
theorem dL_patrons_7 : decode cL_patrons 7 = .ok (.iload 4, 2) := by decide +kernel
theorem dL_patrons_9 : decode cL_patrons 9 = .ok (.invokevirtual 95, 3) := by decide +kernel
theorem dL_patrons_12 : decode cL_patrons 12 = .ok (.i2l, 1) := by decide +kernel
theorem dL_patrons_13 : decode cL_patrons 13 = .ok (.lastore, 1) := by decide +kernel
theorem dL_patrons_14 : decode cL_patrons 14 = .ok (.goto 11, 3) := by decide +kernel
theorem dL_patrons_17 : decode cL_patrons 17 = .ok (.astore 6, 2) := by decide +kernel
theorem dL_patrons_19 : decode cL_patrons 19 = .ok (.iconst 1, 1) := by decide +kernel
theorem dL_patrons_20 : decode cL_patrons 20 = .ok (.ireturn, 1) := by decide +kernel
theorem dL_patrons_21 : decode cL_patrons 21 = .ok (.astore 6, 2) := by decide +kernel
theorem dL_patrons_23 : decode cL_patrons 23 = .ok (.iconst 2, 1) := by decide +kernel
theorem dL_patrons_24 : decode cL_patrons 24 = .ok (.ireturn, 1) := by decide +kernel
theorem dL_patrons_25 : decode cL_patrons 25 = .ok (.iconst 0, 1) := by decide +kernel
theorem dL_patrons_26 : decode cL_patrons 26 = .ok (.ireturn, 1) := by decide +kernel
def fL_patrons (x0 : Nat) (x1 : Int32) (x2 : Int32) (x3 : Int32) (x4 : Int32) (x5 : Nat) (v : zV) : Option (Int32 × zV) := zcatch (fX9_patrons x0 x1 x2 x3 x4 v) x5 (some 1) (some 2)
set_option maxRecDepth 4000 in
theorem kL_patrons (l : Launch) (G : zG) (x0 : Nat) (t0 : zty G x0 1 9) (x1 : Int32) (x2 : Int32) (x3 : Int32) (x4 : Int32) (x5 : Nat) (t5 : zty G x5 2 2) (v : zV) (r : Int32) (w : zV) (hfl9 : l.stackTraces = false) (h : fL_patrons x0 x1 x2 x3 x4 x5 v = some (r, w)) : zMetW l yL_patrons cL_patrons 7 (some .int) [((0 : Nat), (14 : Nat), (17 : Nat), (28 : Nat)), ((0 : Nat), (14 : Nat), (21 : Nat), (13 : Nat))] 9 264 5 30 [zr G x0, .int x1, .int x2, .int x3, .int x4, zr G x5] G v (some (.int r)) w := by
  refine zMW_of (own := RL) (by decide) rfl (Nat.le_of_ble_eq_true rfl) (fun x hl F hr hk hcs htab => ?_)
  subst hl
  refine z_ls [(0, zr G x0), (1, .int x1), (2, .int x2), (3, .int x3), (4, .int x4), (5, zr G x5)] [0, 1, 2, 3, 4, 5] rfl ?_
  refine z_aload F dL_patrons_0 5 rfl ?_
  refine z_iconst (y := (0 : Int32)) F dL_patrons_2 rfl ?_
  refine z_aload_n F dL_patrons_3 rfl 0 rfl ?_
  refine z_iload_n F dL_patrons_4 rfl 1 rfl ?_
  refine z_iload_n F dL_patrons_5 rfl 2 rfl ?_
  refine z_iload_n F dL_patrons_6 rfl 3 rfl ?_
  refine z_iload F dL_patrons_7 4 rfl ?_
  rcases zcatch_ex h with ⟨a1, v1, hq, hin, rfl, rfl⟩ | ⟨a1, hq, he⟩ | ⟨c1, a1, hq, he⟩
  · have hM9 := kX9_patrons x.2.1 G x0 t0 x1 x2 x3 x4 v 0 a1 v1 hfl9 hq
    refine z_xcall0 F [.int x1, .int x2, .int x3, .int x4] [.int (0 : Int32), zr G x5] hM9 mI_X9_patrons (c := 9) rfl t0 wM_L_95 mi_X9_patrons sl_X9_patrons dL_patrons_9 rfl ⟨Nat.le_of_ble_eq_true rfl, Nat.le_of_ble_eq_true rfl⟩ rfl (Nat.le_of_ble_eq_true rfl) ⟨Nat.le_trans (Nat.le_of_ble_eq_true rfl) hcs.1, Nat.le_trans (Nat.le_of_ble_eq_true rfl) hcs.2⟩ ?_
    refine z_id (st := .int a1 :: [.int (0 : Int32), zr G x5]) ?_
    refine z_i2l F dL_patrons_12 ?_
    refine z_last F t5 dL_patrons_13 hin ?_
    refine z_goto F 25 dL_patrons_14 rfl ?_
    refine z_iconst (y := (0 : Int32)) F dL_patrons_25 rfl ?_
    exact z_reti F hr hk dL_patrons_26
  · cases he
    have hM9 := kX9_patrons x.2.1 G x0 t0 x1 x2 x3 x4 v 1 a1 w hfl9 hq
    refine z_xcallC F (E := "java/util/NoSuchElementException") (cd := 0) [] ⟨0, 14, 17, 28⟩ [⟨0, 14, 21, 13⟩] htab rfl (fun z hz => absurd hz List.not_mem_nil) (by decide) (by decide) zck_L_28 zcc_N [.int x1, .int x2, .int x3, .int x4] [.int (0 : Int32), zr G x5] hM9 mI_X9_patrons (c := 9) rfl t0 wM_L_95 mi_X9_patrons sl_X9_patrons dL_patrons_9 rfl ⟨Nat.le_of_ble_eq_true rfl, Nat.le_of_ble_eq_true rfl⟩ rfl (Nat.le_of_ble_eq_true rfl) ⟨Nat.le_trans (Nat.le_of_ble_eq_true rfl) hcs.1, Nat.le_trans (Nat.le_of_ble_eq_true rfl) hcs.2⟩ (fun q => ?_)
    refine z_astore (n := 0) F [(6, .ref q), (0, zr G x0), (1, .int x1), (2, .int x2), (3, .int x3), (4, .int x4), (5, zr G x5)] dL_patrons_17 (Nat.le_of_ble_eq_true rfl) rfl ?_
    refine z_iconst (y := (1 : Int32)) F dL_patrons_19 rfl ?_
    exact z_reti F hr hk dL_patrons_20
  · cases he
    have hM9 := kX9_patrons x.2.1 G x0 t0 x1 x2 x3 x4 v (c1 + 2) a1 w hfl9 hq
    refine z_xcallC F (E := "java/lang/IllegalArgumentException") (cd := c1 + 1) [⟨0, 14, 17, 28⟩] ⟨0, 14, 21, 13⟩ [] htab (zEx2 c1) (fun z hz => by
      rw [List.mem_singleton] at hz
      subst hz
      exact ⟨by decide, "java/util/NoSuchElementException", zck_L_28, z_nc F.2.2.2.2.2.2.2.2⟩) (by decide) (by decide) zck_L_13 zcc_A [.int x1, .int x2, .int x3, .int x4] [.int (0 : Int32), zr G x5] hM9 mI_X9_patrons (c := 9) rfl t0 wM_L_95 mi_X9_patrons sl_X9_patrons dL_patrons_9 rfl ⟨Nat.le_of_ble_eq_true rfl, Nat.le_of_ble_eq_true rfl⟩ rfl (Nat.le_of_ble_eq_true rfl) ⟨Nat.le_trans (Nat.le_of_ble_eq_true rfl) hcs.1, Nat.le_trans (Nat.le_of_ble_eq_true rfl) hcs.2⟩ (fun q => ?_)
    refine z_astore (n := 0) F [(6, .ref q), (0, zr G x0), (1, .int x1), (2, .int x2), (3, .int x3), (4, .int x4), (5, zr G x5)] dL_patrons_21 (Nat.le_of_ble_eq_true rfl) rfl ?_
    refine z_iconst (y := (2 : Int32)) F dL_patrons_23 rfl ?_
    exact z_reti F hr hk dL_patrons_24

set_option maxRecDepth 20000 in
theorem kw_L_allies : Cond.codeWith yL_allies cL_allies 4 (some .int) [((0 : Nat), (9 : Nat), (12 : Nat), (28 : Nat))] ∈ zTbl := zTbl_of (zin_6 (List.mem_of_getElem? (i := 160) rfl)) rfl
theorem dL_allies_0 : decode cL_allies 0 = .ok (.aload_n 2, 1) := by decide +kernel
theorem dL_allies_1 : decode cL_allies 1 = .ok (.iconst 0, 1) := by decide +kernel
theorem dL_allies_2 : decode cL_allies 2 = .ok (.aload_n 0, 1) := by decide +kernel
theorem dL_allies_3 : decode cL_allies 3 = .ok (.iload_n 1, 1) := by decide +kernel
theorem dL_allies_4 : decode cL_allies 4 = .ok (.invokevirtual 98, 3) := by decide +kernel
theorem dL_allies_7 : decode cL_allies 7 = .ok (.i2l, 1) := by decide +kernel
theorem dL_allies_8 : decode cL_allies 8 = .ok (.lastore, 1) := by decide +kernel
theorem dL_allies_9 : decode cL_allies 9 = .ok (.goto 6, 3) := by decide +kernel
theorem dL_allies_12 : decode cL_allies 12 = .ok (.astore_n 3, 1) := by decide +kernel
theorem dL_allies_13 : decode cL_allies 13 = .ok (.iconst 1, 1) := by decide +kernel
theorem dL_allies_14 : decode cL_allies 14 = .ok (.ireturn, 1) := by decide +kernel
theorem dL_allies_15 : decode cL_allies 15 = .ok (.iconst 0, 1) := by decide +kernel
theorem dL_allies_16 : decode cL_allies 16 = .ok (.ireturn, 1) := by decide +kernel
def fL_allies (x0 : Nat) (x1 : Int32) (x2 : Nat) (v : zV) : Option (Int32 × zV) := zcatch (fX9_allies x0 x1 v) x2 (some 1) none
set_option maxRecDepth 4000 in
theorem kL_allies (l : Launch) (G : zG) (x0 : Nat) (t0 : zty G x0 1 9) (x1 : Int32) (x2 : Nat) (t2 : zty G x2 2 2) (v : zV) (r : Int32) (w : zV) (hfl9 : l.stackTraces = false) (h : fL_allies x0 x1 x2 v = some (r, w)) : zMetW l yL_allies cL_allies 4 (some .int) [((0 : Nat), (9 : Nat), (12 : Nat), (28 : Nat))] 8 167 1 6 [zr G x0, .int x1, zr G x2] G v (some (.int r)) w := by
  refine zMW_of (own := RL) (by decide) rfl (Nat.le_of_ble_eq_true rfl) (fun x hl F hr hk hcs htab => ?_)
  subst hl
  refine z_ls [(0, zr G x0), (1, .int x1), (2, zr G x2)] [0, 1, 2] rfl ?_
  refine z_aload_n F dL_allies_0 rfl 2 rfl ?_
  refine z_iconst (y := (0 : Int32)) F dL_allies_1 rfl ?_
  refine z_aload_n F dL_allies_2 rfl 0 rfl ?_
  refine z_iload_n F dL_allies_3 rfl 1 rfl ?_
  rcases zcatch_ex h with ⟨a1, v1, hq, hin, rfl, rfl⟩ | ⟨a1, hq, he⟩ | ⟨c1, a1, hq, he⟩
  · have hM9 := kX9_allies x.2.1 G x0 t0 x1 v 0 a1 v1 hfl9 hq
    refine z_xcall0 F [.int x1] [.int (0 : Int32), zr G x2] hM9 mI_X9_allies (c := 9) rfl t0 wM_L_98 mi_X9_allies sl_X9_allies dL_allies_4 rfl ⟨Nat.le_of_ble_eq_true rfl, Nat.le_of_ble_eq_true rfl⟩ rfl (Nat.le_of_ble_eq_true rfl) ⟨Nat.le_trans (Nat.le_of_ble_eq_true rfl) hcs.1, Nat.le_trans (Nat.le_of_ble_eq_true rfl) hcs.2⟩ ?_
    refine z_id (st := .int a1 :: [.int (0 : Int32), zr G x2]) ?_
    refine z_i2l F dL_allies_7 ?_
    refine z_last F t2 dL_allies_8 hin ?_
    refine z_goto F 15 dL_allies_9 rfl ?_
    refine z_iconst (y := (0 : Int32)) F dL_allies_15 rfl ?_
    exact z_reti F hr hk dL_allies_16
  · cases he
    have hM9 := kX9_allies x.2.1 G x0 t0 x1 v 1 a1 w hfl9 hq
    refine z_xcallC F (E := "java/util/NoSuchElementException") (cd := 0) [] ⟨0, 9, 12, 28⟩ [] htab rfl (fun z hz => absurd hz List.not_mem_nil) (by decide) (by decide) zck_L_28 zcc_N [.int x1] [.int (0 : Int32), zr G x2] hM9 mI_X9_allies (c := 9) rfl t0 wM_L_98 mi_X9_allies sl_X9_allies dL_allies_4 rfl ⟨Nat.le_of_ble_eq_true rfl, Nat.le_of_ble_eq_true rfl⟩ rfl (Nat.le_of_ble_eq_true rfl) ⟨Nat.le_trans (Nat.le_of_ble_eq_true rfl) hcs.1, Nat.le_trans (Nat.le_of_ble_eq_true rfl) hcs.2⟩ (fun q => ?_)
    refine z_astore_n F [(3, .ref q), (0, zr G x0), (1, .int x1), (2, zr G x2)] dL_allies_12 rfl (Nat.le_of_ble_eq_true rfl) rfl ?_
    refine z_iconst (y := (1 : Int32)) F dL_allies_13 rfl ?_
    exact z_reti F hr hk dL_allies_14
  · cases he

set_option maxRecDepth 20000 in
theorem kw_L_rank : Cond.codeWith yL_rank cL_rank 4 (some .int) [((0 : Nat), (9 : Nat), (12 : Nat), (28 : Nat))] ∈ zTbl := zTbl_of (zin_6 (List.mem_of_getElem? (i := 171) rfl)) rfl
theorem dL_rank_0 : decode cL_rank 0 = .ok (.aload_n 2, 1) := by decide +kernel
theorem dL_rank_1 : decode cL_rank 1 = .ok (.iconst 0, 1) := by decide +kernel
theorem dL_rank_2 : decode cL_rank 2 = .ok (.aload_n 0, 1) := by decide +kernel
theorem dL_rank_3 : decode cL_rank 3 = .ok (.iload_n 1, 1) := by decide +kernel
theorem dL_rank_4 : decode cL_rank 4 = .ok (.invokevirtual 101, 3) := by decide +kernel
theorem dL_rank_7 : decode cL_rank 7 = .ok (.i2l, 1) := by decide +kernel
theorem dL_rank_8 : decode cL_rank 8 = .ok (.lastore, 1) := by decide +kernel
theorem dL_rank_9 : decode cL_rank 9 = .ok (.goto 6, 3) := by decide +kernel
theorem dL_rank_12 : decode cL_rank 12 = .ok (.astore_n 3, 1) := by decide +kernel
theorem dL_rank_13 : decode cL_rank 13 = .ok (.iconst 1, 1) := by decide +kernel
theorem dL_rank_14 : decode cL_rank 14 = .ok (.ireturn, 1) := by decide +kernel
theorem dL_rank_15 : decode cL_rank 15 = .ok (.iconst 0, 1) := by decide +kernel
theorem dL_rank_16 : decode cL_rank 16 = .ok (.ireturn, 1) := by decide +kernel
def fL_rank (x0 : Nat) (x1 : Int32) (x2 : Nat) (v : zV) : Option (Int32 × zV) := zcatch (fX9_rank x0 x1 v) x2 (some 1) none
set_option maxRecDepth 4000 in
theorem kL_rank (l : Launch) (G : zG) (x0 : Nat) (t0 : zty G x0 1 9) (x1 : Int32) (x2 : Nat) (t2 : zty G x2 2 2) (v : zV) (r : Int32) (w : zV) (hfl9 : l.stackTraces = false) (h : fL_rank x0 x1 x2 v = some (r, w)) : zMetW l yL_rank cL_rank 4 (some .int) [((0 : Nat), (9 : Nat), (12 : Nat), (28 : Nat))] 8 193 1 6 [zr G x0, .int x1, zr G x2] G v (some (.int r)) w := by
  refine zMW_of (own := RL) (by decide) rfl (Nat.le_of_ble_eq_true rfl) (fun x hl F hr hk hcs htab => ?_)
  subst hl
  refine z_ls [(0, zr G x0), (1, .int x1), (2, zr G x2)] [0, 1, 2] rfl ?_
  refine z_aload_n F dL_rank_0 rfl 2 rfl ?_
  refine z_iconst (y := (0 : Int32)) F dL_rank_1 rfl ?_
  refine z_aload_n F dL_rank_2 rfl 0 rfl ?_
  refine z_iload_n F dL_rank_3 rfl 1 rfl ?_
  rcases zcatch_ex h with ⟨a1, v1, hq, hin, rfl, rfl⟩ | ⟨a1, hq, he⟩ | ⟨c1, a1, hq, he⟩
  · have hM9 := kX9_rank x.2.1 G x0 t0 x1 v 0 a1 v1 hfl9 hq
    refine z_xcall0 F [.int x1] [.int (0 : Int32), zr G x2] hM9 mI_X9_rank (c := 9) rfl t0 wM_L_101 mi_X9_rank sl_X9_rank dL_rank_4 rfl ⟨Nat.le_of_ble_eq_true rfl, Nat.le_of_ble_eq_true rfl⟩ rfl (Nat.le_of_ble_eq_true rfl) ⟨Nat.le_trans (Nat.le_of_ble_eq_true rfl) hcs.1, Nat.le_trans (Nat.le_of_ble_eq_true rfl) hcs.2⟩ ?_
    refine z_id (st := .int a1 :: [.int (0 : Int32), zr G x2]) ?_
    refine z_i2l F dL_rank_7 ?_
    refine z_last F t2 dL_rank_8 hin ?_
    refine z_goto F 15 dL_rank_9 rfl ?_
    refine z_iconst (y := (0 : Int32)) F dL_rank_15 rfl ?_
    exact z_reti F hr hk dL_rank_16
  · cases he
    have hM9 := kX9_rank x.2.1 G x0 t0 x1 v 1 a1 w hfl9 hq
    refine z_xcallC F (E := "java/util/NoSuchElementException") (cd := 0) [] ⟨0, 9, 12, 28⟩ [] htab rfl (fun z hz => absurd hz List.not_mem_nil) (by decide) (by decide) zck_L_28 zcc_N [.int x1] [.int (0 : Int32), zr G x2] hM9 mI_X9_rank (c := 9) rfl t0 wM_L_101 mi_X9_rank sl_X9_rank dL_rank_4 rfl ⟨Nat.le_of_ble_eq_true rfl, Nat.le_of_ble_eq_true rfl⟩ rfl (Nat.le_of_ble_eq_true rfl) ⟨Nat.le_trans (Nat.le_of_ble_eq_true rfl) hcs.1, Nat.le_trans (Nat.le_of_ble_eq_true rfl) hcs.2⟩ (fun q => ?_)
    refine z_astore_n F [(3, .ref q), (0, zr G x0), (1, .int x1), (2, zr G x2)] dL_rank_12 rfl (Nat.le_of_ble_eq_true rfl) rfl ?_
    refine z_iconst (y := (1 : Int32)) F dL_rank_13 rfl ?_
    exact z_reti F hr hk dL_rank_14
  · cases he

set_option maxRecDepth 20000 in
theorem kw_L_wants : Cond.codeWith yL_wants cL_wants 4 (some .int) [((0 : Nat), (9 : Nat), (12 : Nat), (28 : Nat))] ∈ zTbl := zTbl_of (zin_6 (List.mem_of_getElem? (i := 182) rfl)) rfl
theorem dL_wants_0 : decode cL_wants 0 = .ok (.aload_n 2, 1) := by decide +kernel
theorem dL_wants_1 : decode cL_wants 1 = .ok (.iconst 0, 1) := by decide +kernel
theorem dL_wants_2 : decode cL_wants 2 = .ok (.aload_n 0, 1) := by decide +kernel
theorem dL_wants_3 : decode cL_wants 3 = .ok (.iload_n 1, 1) := by decide +kernel
theorem dL_wants_4 : decode cL_wants 4 = .ok (.invokevirtual 104, 3) := by decide +kernel
theorem dL_wants_7 : decode cL_wants 7 = .ok (.i2l, 1) := by decide +kernel
theorem dL_wants_8 : decode cL_wants 8 = .ok (.lastore, 1) := by decide +kernel
theorem dL_wants_9 : decode cL_wants 9 = .ok (.goto 6, 3) := by decide +kernel
theorem dL_wants_12 : decode cL_wants 12 = .ok (.astore_n 3, 1) := by decide +kernel
theorem dL_wants_13 : decode cL_wants 13 = .ok (.iconst 1, 1) := by decide +kernel
theorem dL_wants_14 : decode cL_wants 14 = .ok (.ireturn, 1) := by decide +kernel
theorem dL_wants_15 : decode cL_wants 15 = .ok (.iconst 0, 1) := by decide +kernel
theorem dL_wants_16 : decode cL_wants 16 = .ok (.ireturn, 1) := by decide +kernel
def fL_wants (x0 : Nat) (x1 : Int32) (x2 : Nat) (v : zV) : Option (Int32 × zV) := zcatch (fX9_wants x0 x1 v) x2 (some 1) none
set_option maxRecDepth 4000 in
theorem kL_wants (l : Launch) (G : zG) (x0 : Nat) (t0 : zty G x0 1 9) (x1 : Int32) (x2 : Nat) (t2 : zty G x2 2 2) (v : zV) (r : Int32) (w : zV) (hfl9 : l.stackTraces = false) (h : fL_wants x0 x1 x2 v = some (r, w)) : zMetW l yL_wants cL_wants 4 (some .int) [((0 : Nat), (9 : Nat), (12 : Nat), (28 : Nat))] 9 255 1 6 [zr G x0, .int x1, zr G x2] G v (some (.int r)) w := by
  refine zMW_of (own := RL) (by decide) rfl (Nat.le_of_ble_eq_true rfl) (fun x hl F hr hk hcs htab => ?_)
  subst hl
  refine z_ls [(0, zr G x0), (1, .int x1), (2, zr G x2)] [0, 1, 2] rfl ?_
  refine z_aload_n F dL_wants_0 rfl 2 rfl ?_
  refine z_iconst (y := (0 : Int32)) F dL_wants_1 rfl ?_
  refine z_aload_n F dL_wants_2 rfl 0 rfl ?_
  refine z_iload_n F dL_wants_3 rfl 1 rfl ?_
  rcases zcatch_ex h with ⟨a1, v1, hq, hin, rfl, rfl⟩ | ⟨a1, hq, he⟩ | ⟨c1, a1, hq, he⟩
  · have hM9 := kX9_wants x.2.1 G x0 t0 x1 v 0 a1 v1 hfl9 hq
    refine z_xcall0 F [.int x1] [.int (0 : Int32), zr G x2] hM9 mI_X9_wants (c := 9) rfl t0 wM_L_104 mi_X9_wants sl_X9_wants dL_wants_4 rfl ⟨Nat.le_of_ble_eq_true rfl, Nat.le_of_ble_eq_true rfl⟩ rfl (Nat.le_of_ble_eq_true rfl) ⟨Nat.le_trans (Nat.le_of_ble_eq_true rfl) hcs.1, Nat.le_trans (Nat.le_of_ble_eq_true rfl) hcs.2⟩ ?_
    refine z_id (st := .int a1 :: [.int (0 : Int32), zr G x2]) ?_
    refine z_i2l F dL_wants_7 ?_
    refine z_last F t2 dL_wants_8 hin ?_
    refine z_goto F 15 dL_wants_9 rfl ?_
    refine z_iconst (y := (0 : Int32)) F dL_wants_15 rfl ?_
    exact z_reti F hr hk dL_wants_16
  · cases he
    have hM9 := kX9_wants x.2.1 G x0 t0 x1 v 1 a1 w hfl9 hq
    refine z_xcallC F (E := "java/util/NoSuchElementException") (cd := 0) [] ⟨0, 9, 12, 28⟩ [] htab rfl (fun z hz => absurd hz List.not_mem_nil) (by decide) (by decide) zck_L_28 zcc_N [.int x1] [.int (0 : Int32), zr G x2] hM9 mI_X9_wants (c := 9) rfl t0 wM_L_104 mi_X9_wants sl_X9_wants dL_wants_4 rfl ⟨Nat.le_of_ble_eq_true rfl, Nat.le_of_ble_eq_true rfl⟩ rfl (Nat.le_of_ble_eq_true rfl) ⟨Nat.le_trans (Nat.le_of_ble_eq_true rfl) hcs.1, Nat.le_trans (Nat.le_of_ble_eq_true rfl) hcs.2⟩ (fun q => ?_)
    refine z_astore_n F [(3, .ref q), (0, zr G x0), (1, .int x1), (2, zr G x2)] dL_wants_12 rfl (Nat.le_of_ble_eq_true rfl) rfl ?_
    refine z_iconst (y := (1 : Int32)) F dL_wants_13 rfl ?_
    exact z_reti F hr hk dL_wants_14
  · cases he

set_option maxRecDepth 20000 in
theorem kw_L_stays : Cond.codeWith yL_stays cL_stays 4 (some .int) [((0 : Nat), (9 : Nat), (12 : Nat), (28 : Nat))] ∈ zTbl := zTbl_of (zin_6 (List.mem_of_getElem? (i := 193) rfl)) rfl
theorem dL_stays_0 : decode cL_stays 0 = .ok (.aload_n 2, 1) := by decide +kernel
theorem dL_stays_1 : decode cL_stays 1 = .ok (.iconst 0, 1) := by decide +kernel
theorem dL_stays_2 : decode cL_stays 2 = .ok (.aload_n 0, 1) := by decide +kernel
theorem dL_stays_3 : decode cL_stays 3 = .ok (.iload_n 1, 1) := by decide +kernel
theorem dL_stays_4 : decode cL_stays 4 = .ok (.invokevirtual 107, 3) := by decide +kernel
theorem dL_stays_7 : decode cL_stays 7 = .ok (.i2l, 1) := by decide +kernel
theorem dL_stays_8 : decode cL_stays 8 = .ok (.lastore, 1) := by decide +kernel
theorem dL_stays_9 : decode cL_stays 9 = .ok (.goto 6, 3) := by decide +kernel
theorem dL_stays_12 : decode cL_stays 12 = .ok (.astore_n 3, 1) := by decide +kernel
theorem dL_stays_13 : decode cL_stays 13 = .ok (.iconst 1, 1) := by decide +kernel
theorem dL_stays_14 : decode cL_stays 14 = .ok (.ireturn, 1) := by decide +kernel
theorem dL_stays_15 : decode cL_stays 15 = .ok (.iconst 0, 1) := by decide +kernel
theorem dL_stays_16 : decode cL_stays 16 = .ok (.ireturn, 1) := by decide +kernel
def fL_stays (x0 : Nat) (x1 : Int32) (x2 : Nat) (v : zV) : Option (Int32 × zV) := zcatch (fX9_stays x0 x1 v) x2 (some 1) none
set_option maxRecDepth 4000 in
theorem kL_stays (l : Launch) (G : zG) (x0 : Nat) (t0 : zty G x0 1 9) (x1 : Int32) (x2 : Nat) (t2 : zty G x2 2 2) (v : zV) (r : Int32) (w : zV) (hfl9 : l.stackTraces = false) (h : fL_stays x0 x1 x2 v = some (r, w)) : zMetW l yL_stays cL_stays 4 (some .int) [((0 : Nat), (9 : Nat), (12 : Nat), (28 : Nat))] 9 257 1 6 [zr G x0, .int x1, zr G x2] G v (some (.int r)) w := by
  refine zMW_of (own := RL) (by decide) rfl (Nat.le_of_ble_eq_true rfl) (fun x hl F hr hk hcs htab => ?_)
  subst hl
  refine z_ls [(0, zr G x0), (1, .int x1), (2, zr G x2)] [0, 1, 2] rfl ?_
  refine z_aload_n F dL_stays_0 rfl 2 rfl ?_
  refine z_iconst (y := (0 : Int32)) F dL_stays_1 rfl ?_
  refine z_aload_n F dL_stays_2 rfl 0 rfl ?_
  refine z_iload_n F dL_stays_3 rfl 1 rfl ?_
  rcases zcatch_ex h with ⟨a1, v1, hq, hin, rfl, rfl⟩ | ⟨a1, hq, he⟩ | ⟨c1, a1, hq, he⟩
  · have hM9 := kX9_stays x.2.1 G x0 t0 x1 v 0 a1 v1 hfl9 hq
    refine z_xcall0 F [.int x1] [.int (0 : Int32), zr G x2] hM9 mI_X9_stays (c := 9) rfl t0 wM_L_107 mi_X9_stays sl_X9_stays dL_stays_4 rfl ⟨Nat.le_of_ble_eq_true rfl, Nat.le_of_ble_eq_true rfl⟩ rfl (Nat.le_of_ble_eq_true rfl) ⟨Nat.le_trans (Nat.le_of_ble_eq_true rfl) hcs.1, Nat.le_trans (Nat.le_of_ble_eq_true rfl) hcs.2⟩ ?_
    refine z_id (st := .int a1 :: [.int (0 : Int32), zr G x2]) ?_
    refine z_i2l F dL_stays_7 ?_
    refine z_last F t2 dL_stays_8 hin ?_
    refine z_goto F 15 dL_stays_9 rfl ?_
    refine z_iconst (y := (0 : Int32)) F dL_stays_15 rfl ?_
    exact z_reti F hr hk dL_stays_16
  · cases he
    have hM9 := kX9_stays x.2.1 G x0 t0 x1 v 1 a1 w hfl9 hq
    refine z_xcallC F (E := "java/util/NoSuchElementException") (cd := 0) [] ⟨0, 9, 12, 28⟩ [] htab rfl (fun z hz => absurd hz List.not_mem_nil) (by decide) (by decide) zck_L_28 zcc_N [.int x1] [.int (0 : Int32), zr G x2] hM9 mI_X9_stays (c := 9) rfl t0 wM_L_107 mi_X9_stays sl_X9_stays dL_stays_4 rfl ⟨Nat.le_of_ble_eq_true rfl, Nat.le_of_ble_eq_true rfl⟩ rfl (Nat.le_of_ble_eq_true rfl) ⟨Nat.le_trans (Nat.le_of_ble_eq_true rfl) hcs.1, Nat.le_trans (Nat.le_of_ble_eq_true rfl) hcs.2⟩ (fun q => ?_)
    refine z_astore_n F [(3, .ref q), (0, zr G x0), (1, .int x1), (2, zr G x2)] dL_stays_12 rfl (Nat.le_of_ble_eq_true rfl) rfl ?_
    refine z_iconst (y := (1 : Int32)) F dL_stays_13 rfl ?_
    exact z_reti F hr hk dL_stays_14
  · cases he

set_option maxRecDepth 20000 in
theorem kw_L_doomed : Cond.codeWith yL_doomed cL_doomed 4 (some .int) [((0 : Nat), (9 : Nat), (12 : Nat), (28 : Nat))] ∈ zTbl := zTbl_of (zin_6 (List.mem_of_getElem? (i := 204) rfl)) rfl
theorem dL_doomed_0 : decode cL_doomed 0 = .ok (.aload_n 2, 1) := by decide +kernel
theorem dL_doomed_1 : decode cL_doomed 1 = .ok (.iconst 0, 1) := by decide +kernel
theorem dL_doomed_2 : decode cL_doomed 2 = .ok (.aload_n 0, 1) := by decide +kernel
theorem dL_doomed_3 : decode cL_doomed 3 = .ok (.iload_n 1, 1) := by decide +kernel
theorem dL_doomed_4 : decode cL_doomed 4 = .ok (.invokevirtual 110, 3) := by decide +kernel
theorem dL_doomed_7 : decode cL_doomed 7 = .ok (.i2l, 1) := by decide +kernel
theorem dL_doomed_8 : decode cL_doomed 8 = .ok (.lastore, 1) := by decide +kernel
theorem dL_doomed_9 : decode cL_doomed 9 = .ok (.goto 6, 3) := by decide +kernel
theorem dL_doomed_12 : decode cL_doomed 12 = .ok (.astore_n 3, 1) := by decide +kernel
theorem dL_doomed_13 : decode cL_doomed 13 = .ok (.iconst 1, 1) := by decide +kernel
theorem dL_doomed_14 : decode cL_doomed 14 = .ok (.ireturn, 1) := by decide +kernel
theorem dL_doomed_15 : decode cL_doomed 15 = .ok (.iconst 0, 1) := by decide +kernel
theorem dL_doomed_16 : decode cL_doomed 16 = .ok (.ireturn, 1) := by decide +kernel
def fL_doomed (x0 : Nat) (x1 : Int32) (x2 : Nat) (v : zV) : Option (Int32 × zV) := zcatch (fX9_doomed x0 x1 v) x2 (some 1) none
set_option maxRecDepth 4000 in
theorem kL_doomed (l : Launch) (G : zG) (x0 : Nat) (t0 : zty G x0 1 9) (x1 : Int32) (x2 : Nat) (t2 : zty G x2 2 2) (v : zV) (r : Int32) (w : zV) (hfl9 : l.stackTraces = false) (h : fL_doomed x0 x1 x2 v = some (r, w)) : zMetW l yL_doomed cL_doomed 4 (some .int) [((0 : Nat), (9 : Nat), (12 : Nat), (28 : Nat))] 8 214 1 6 [zr G x0, .int x1, zr G x2] G v (some (.int r)) w := by
  refine zMW_of (own := RL) (by decide) rfl (Nat.le_of_ble_eq_true rfl) (fun x hl F hr hk hcs htab => ?_)
  subst hl
  refine z_ls [(0, zr G x0), (1, .int x1), (2, zr G x2)] [0, 1, 2] rfl ?_
  refine z_aload_n F dL_doomed_0 rfl 2 rfl ?_
  refine z_iconst (y := (0 : Int32)) F dL_doomed_1 rfl ?_
  refine z_aload_n F dL_doomed_2 rfl 0 rfl ?_
  refine z_iload_n F dL_doomed_3 rfl 1 rfl ?_
  rcases zcatch_ex h with ⟨a1, v1, hq, hin, rfl, rfl⟩ | ⟨a1, hq, he⟩ | ⟨c1, a1, hq, he⟩
  · have hM9 := kX9_doomed x.2.1 G x0 t0 x1 v 0 a1 v1 hfl9 hq
    refine z_xcall0 F [.int x1] [.int (0 : Int32), zr G x2] hM9 mI_X9_doomed (c := 9) rfl t0 wM_L_110 mi_X9_doomed sl_X9_doomed dL_doomed_4 rfl ⟨Nat.le_of_ble_eq_true rfl, Nat.le_of_ble_eq_true rfl⟩ rfl (Nat.le_of_ble_eq_true rfl) ⟨Nat.le_trans (Nat.le_of_ble_eq_true rfl) hcs.1, Nat.le_trans (Nat.le_of_ble_eq_true rfl) hcs.2⟩ ?_
    refine z_id (st := .int a1 :: [.int (0 : Int32), zr G x2]) ?_
    refine z_i2l F dL_doomed_7 ?_
    refine z_last F t2 dL_doomed_8 hin ?_
    refine z_goto F 15 dL_doomed_9 rfl ?_
    refine z_iconst (y := (0 : Int32)) F dL_doomed_15 rfl ?_
    exact z_reti F hr hk dL_doomed_16
  · cases he
    have hM9 := kX9_doomed x.2.1 G x0 t0 x1 v 1 a1 w hfl9 hq
    refine z_xcallC F (E := "java/util/NoSuchElementException") (cd := 0) [] ⟨0, 9, 12, 28⟩ [] htab rfl (fun z hz => absurd hz List.not_mem_nil) (by decide) (by decide) zck_L_28 zcc_N [.int x1] [.int (0 : Int32), zr G x2] hM9 mI_X9_doomed (c := 9) rfl t0 wM_L_110 mi_X9_doomed sl_X9_doomed dL_doomed_4 rfl ⟨Nat.le_of_ble_eq_true rfl, Nat.le_of_ble_eq_true rfl⟩ rfl (Nat.le_of_ble_eq_true rfl) ⟨Nat.le_trans (Nat.le_of_ble_eq_true rfl) hcs.1, Nat.le_trans (Nat.le_of_ble_eq_true rfl) hcs.2⟩ (fun q => ?_)
    refine z_astore_n F [(3, .ref q), (0, zr G x0), (1, .int x1), (2, zr G x2)] dL_doomed_12 rfl (Nat.le_of_ble_eq_true rfl) rfl ?_
    refine z_iconst (y := (1 : Int32)) F dL_doomed_13 rfl ?_
    exact z_reti F hr hk dL_doomed_14
  · cases he

set_option maxRecDepth 20000 in
theorem kw_L_pair : Cond.codeWith yL_pair cL_pair 4 (some .int) [((0 : Nat), (9 : Nat), (12 : Nat), (13 : Nat))] ∈ zTbl := zTbl_of (zin_6 (List.mem_of_getElem? (i := 216) rfl)) rfl
theorem dL_pair_0 : decode cL_pair 0 = .ok (.aload_n 2, 1) := by decide +kernel
theorem dL_pair_1 : decode cL_pair 1 = .ok (.iconst 0, 1) := by decide +kernel
theorem dL_pair_2 : decode cL_pair 2 = .ok (.aload_n 0, 1) := by decide +kernel
theorem dL_pair_3 : decode cL_pair 3 = .ok (.iload_n 1, 1) := by decide +kernel
theorem dL_pair_4 : decode cL_pair 4 = .ok (.invokevirtual 113, 3) := by decide +kernel
theorem dL_pair_7 : decode cL_pair 7 = .ok (.i2l, 1) := by decide +kernel
theorem dL_pair_8 : decode cL_pair 8 = .ok (.lastore, 1) := by decide +kernel
theorem dL_pair_9 : decode cL_pair 9 = .ok (.goto 6, 3) := by decide +kernel
theorem dL_pair_12 : decode cL_pair 12 = .ok (.astore_n 3, 1) := by decide +kernel
theorem dL_pair_13 : decode cL_pair 13 = .ok (.iconst 1, 1) := by decide +kernel
theorem dL_pair_14 : decode cL_pair 14 = .ok (.ireturn, 1) := by decide +kernel
theorem dL_pair_15 : decode cL_pair 15 = .ok (.iconst 0, 1) := by decide +kernel
theorem dL_pair_16 : decode cL_pair 16 = .ok (.ireturn, 1) := by decide +kernel
def fL_pair (x0 : Nat) (x1 : Int32) (x2 : Nat) (v : zV) : Option (Int32 × zV) := zcatch (fX9_pair x0 x1 v) x2 none (some 1)
set_option maxRecDepth 4000 in
theorem kL_pair (l : Launch) (G : zG) (x0 : Nat) (t0 : zty G x0 1 9) (x1 : Int32) (x2 : Nat) (t2 : zty G x2 2 2) (v : zV) (r : Int32) (w : zV) (hfl9 : l.stackTraces = false) (h : fL_pair x0 x1 x2 v = some (r, w)) : zMetW l yL_pair cL_pair 4 (some .int) [((0 : Nat), (9 : Nat), (12 : Nat), (13 : Nat))] 8 172 1 6 [zr G x0, .int x1, zr G x2] G v (some (.int r)) w := by
  refine zMW_of (own := RL) (by decide) rfl (Nat.le_of_ble_eq_true rfl) (fun x hl F hr hk hcs htab => ?_)
  subst hl
  refine z_ls [(0, zr G x0), (1, .int x1), (2, zr G x2)] [0, 1, 2] rfl ?_
  refine z_aload_n F dL_pair_0 rfl 2 rfl ?_
  refine z_iconst (y := (0 : Int32)) F dL_pair_1 rfl ?_
  refine z_aload_n F dL_pair_2 rfl 0 rfl ?_
  refine z_iload_n F dL_pair_3 rfl 1 rfl ?_
  rcases zcatch_ex h with ⟨a1, v1, hq, hin, rfl, rfl⟩ | ⟨a1, hq, he⟩ | ⟨c1, a1, hq, he⟩
  · have hM9 := kX9_pair x.2.1 G x0 t0 x1 v 0 a1 v1 hfl9 hq
    refine z_xcall0 F [.int x1] [.int (0 : Int32), zr G x2] hM9 mI_X9_pair (c := 9) rfl t0 wM_L_113 mi_X9_pair sl_X9_pair dL_pair_4 rfl ⟨Nat.le_of_ble_eq_true rfl, Nat.le_of_ble_eq_true rfl⟩ rfl (Nat.le_of_ble_eq_true rfl) ⟨Nat.le_trans (Nat.le_of_ble_eq_true rfl) hcs.1, Nat.le_trans (Nat.le_of_ble_eq_true rfl) hcs.2⟩ ?_
    refine z_id (st := .int a1 :: [.int (0 : Int32), zr G x2]) ?_
    refine z_i2l F dL_pair_7 ?_
    refine z_last F t2 dL_pair_8 hin ?_
    refine z_goto F 15 dL_pair_9 rfl ?_
    refine z_iconst (y := (0 : Int32)) F dL_pair_15 rfl ?_
    exact z_reti F hr hk dL_pair_16
  · cases he
  · cases he
    have hM9 := kX9_pair x.2.1 G x0 t0 x1 v (c1 + 2) a1 w hfl9 hq
    refine z_xcallC F (E := "java/lang/IllegalArgumentException") (cd := c1 + 1) [] ⟨0, 9, 12, 13⟩ [] htab (zEx2 c1) (fun z hz => absurd hz List.not_mem_nil) (by decide) (by decide) zck_L_13 zcc_A [.int x1] [.int (0 : Int32), zr G x2] hM9 mI_X9_pair (c := 9) rfl t0 wM_L_113 mi_X9_pair sl_X9_pair dL_pair_4 rfl ⟨Nat.le_of_ble_eq_true rfl, Nat.le_of_ble_eq_true rfl⟩ rfl (Nat.le_of_ble_eq_true rfl) ⟨Nat.le_trans (Nat.le_of_ble_eq_true rfl) hcs.1, Nat.le_trans (Nat.le_of_ble_eq_true rfl) hcs.2⟩ (fun q => ?_)
    refine z_astore_n F [(3, .ref q), (0, zr G x0), (1, .int x1), (2, zr G x2)] dL_pair_12 rfl (Nat.le_of_ble_eq_true rfl) rfl ?_
    refine z_iconst (y := (1 : Int32)) F dL_pair_13 rfl ?_
    exact z_reti F hr hk dL_pair_14

set_option maxRecDepth 20000 in
theorem kw_L_quorum : Cond.codeWith yL_quorum cL_quorum 4 (some .int) [((0 : Nat), (9 : Nat), (12 : Nat), (28 : Nat))] ∈ zTbl := zTbl_of (zin_6 (List.mem_of_getElem? (i := 227) rfl)) rfl
theorem dL_quorum_0 : decode cL_quorum 0 = .ok (.aload_n 2, 1) := by decide +kernel
theorem dL_quorum_1 : decode cL_quorum 1 = .ok (.iconst 0, 1) := by decide +kernel
theorem dL_quorum_2 : decode cL_quorum 2 = .ok (.aload_n 0, 1) := by decide +kernel
theorem dL_quorum_3 : decode cL_quorum 3 = .ok (.iload_n 1, 1) := by decide +kernel
theorem dL_quorum_4 : decode cL_quorum 4 = .ok (.invokevirtual 116, 3) := by decide +kernel
theorem dL_quorum_7 : decode cL_quorum 7 = .ok (.i2l, 1) := by decide +kernel
theorem dL_quorum_8 : decode cL_quorum 8 = .ok (.lastore, 1) := by decide +kernel
theorem dL_quorum_9 : decode cL_quorum 9 = .ok (.goto 6, 3) := by decide +kernel
theorem dL_quorum_12 : decode cL_quorum 12 = .ok (.astore_n 3, 1) := by decide +kernel
theorem dL_quorum_13 : decode cL_quorum 13 = .ok (.iconst 1, 1) := by decide +kernel
theorem dL_quorum_14 : decode cL_quorum 14 = .ok (.ireturn, 1) := by decide +kernel
theorem dL_quorum_15 : decode cL_quorum 15 = .ok (.iconst 0, 1) := by decide +kernel
theorem dL_quorum_16 : decode cL_quorum 16 = .ok (.ireturn, 1) := by decide +kernel
def fL_quorum (x0 : Nat) (x1 : Int32) (x2 : Nat) (v : zV) : Option (Int32 × zV) := zcatch (fX9_quorum x0 x1 v) x2 (some 1) none
set_option maxRecDepth 4000 in
theorem kL_quorum (l : Launch) (G : zG) (x0 : Nat) (t0 : zty G x0 1 9) (x1 : Int32) (x2 : Nat) (t2 : zty G x2 2 2) (v : zV) (r : Int32) (w : zV) (hfl9 : l.stackTraces = false) (h : fL_quorum x0 x1 x2 v = some (r, w)) : zMetW l yL_quorum cL_quorum 4 (some .int) [((0 : Nat), (9 : Nat), (12 : Nat), (28 : Nat))] 8 238 1 6 [zr G x0, .int x1, zr G x2] G v (some (.int r)) w := by
  refine zMW_of (own := RL) (by decide) rfl (Nat.le_of_ble_eq_true rfl) (fun x hl F hr hk hcs htab => ?_)
  subst hl
  refine z_ls [(0, zr G x0), (1, .int x1), (2, zr G x2)] [0, 1, 2] rfl ?_
  refine z_aload_n F dL_quorum_0 rfl 2 rfl ?_
  refine z_iconst (y := (0 : Int32)) F dL_quorum_1 rfl ?_
  refine z_aload_n F dL_quorum_2 rfl 0 rfl ?_
  refine z_iload_n F dL_quorum_3 rfl 1 rfl ?_
  rcases zcatch_ex h with ⟨a1, v1, hq, hin, rfl, rfl⟩ | ⟨a1, hq, he⟩ | ⟨c1, a1, hq, he⟩
  · have hM9 := kX9_quorum x.2.1 G x0 t0 x1 v 0 a1 v1 hfl9 hq
    refine z_xcall0 F [.int x1] [.int (0 : Int32), zr G x2] hM9 mI_X9_quorum (c := 9) rfl t0 wM_L_116 mi_X9_quorum sl_X9_quorum dL_quorum_4 rfl ⟨Nat.le_of_ble_eq_true rfl, Nat.le_of_ble_eq_true rfl⟩ rfl (Nat.le_of_ble_eq_true rfl) ⟨Nat.le_trans (Nat.le_of_ble_eq_true rfl) hcs.1, Nat.le_trans (Nat.le_of_ble_eq_true rfl) hcs.2⟩ ?_
    refine z_id (st := .int a1 :: [.int (0 : Int32), zr G x2]) ?_
    refine z_i2l F dL_quorum_7 ?_
    refine z_last F t2 dL_quorum_8 hin ?_
    refine z_goto F 15 dL_quorum_9 rfl ?_
    refine z_iconst (y := (0 : Int32)) F dL_quorum_15 rfl ?_
    exact z_reti F hr hk dL_quorum_16
  · cases he
    have hM9 := kX9_quorum x.2.1 G x0 t0 x1 v 1 a1 w hfl9 hq
    refine z_xcallC F (E := "java/util/NoSuchElementException") (cd := 0) [] ⟨0, 9, 12, 28⟩ [] htab rfl (fun z hz => absurd hz List.not_mem_nil) (by decide) (by decide) zck_L_28 zcc_N [.int x1] [.int (0 : Int32), zr G x2] hM9 mI_X9_quorum (c := 9) rfl t0 wM_L_116 mi_X9_quorum sl_X9_quorum dL_quorum_4 rfl ⟨Nat.le_of_ble_eq_true rfl, Nat.le_of_ble_eq_true rfl⟩ rfl (Nat.le_of_ble_eq_true rfl) ⟨Nat.le_trans (Nat.le_of_ble_eq_true rfl) hcs.1, Nat.le_trans (Nat.le_of_ble_eq_true rfl) hcs.2⟩ (fun q => ?_)
    refine z_astore_n F [(3, .ref q), (0, zr G x0), (1, .int x1), (2, zr G x2)] dL_quorum_12 rfl (Nat.le_of_ble_eq_true rfl) rfl ?_
    refine z_iconst (y := (1 : Int32)) F dL_quorum_13 rfl ?_
    exact z_reti F hr hk dL_quorum_14
  · cases he

set_option maxRecDepth 20000 in
theorem kw_L_heir : Cond.codeWith yL_heir cL_heir 4 (some .int) [((0 : Nat), (9 : Nat), (12 : Nat), (28 : Nat))] ∈ zTbl := zTbl_of (zin_6 (List.mem_of_getElem? (i := 238) rfl)) rfl
theorem dL_heir_0 : decode cL_heir 0 = .ok (.aload_n 2, 1) := by decide +kernel
theorem dL_heir_1 : decode cL_heir 1 = .ok (.iconst 0, 1) := by decide +kernel
theorem dL_heir_2 : decode cL_heir 2 = .ok (.aload_n 0, 1) := by decide +kernel
theorem dL_heir_3 : decode cL_heir 3 = .ok (.iload_n 1, 1) := by decide +kernel
theorem dL_heir_4 : decode cL_heir 4 = .ok (.invokevirtual 119, 3) := by decide +kernel
theorem dL_heir_7 : decode cL_heir 7 = .ok (.i2l, 1) := by decide +kernel
theorem dL_heir_8 : decode cL_heir 8 = .ok (.lastore, 1) := by decide +kernel
theorem dL_heir_9 : decode cL_heir 9 = .ok (.goto 6, 3) := by decide +kernel
theorem dL_heir_12 : decode cL_heir 12 = .ok (.astore_n 3, 1) := by decide +kernel
theorem dL_heir_13 : decode cL_heir 13 = .ok (.iconst 1, 1) := by decide +kernel
theorem dL_heir_14 : decode cL_heir 14 = .ok (.ireturn, 1) := by decide +kernel
theorem dL_heir_15 : decode cL_heir 15 = .ok (.iconst 0, 1) := by decide +kernel
theorem dL_heir_16 : decode cL_heir 16 = .ok (.ireturn, 1) := by decide +kernel
def fL_heir (x0 : Nat) (x1 : Int32) (x2 : Nat) (v : zV) : Option (Int32 × zV) := zcatch (fX9_heir x0 x1 v) x2 (some 1) none
set_option maxRecDepth 4000 in
theorem kL_heir (l : Launch) (G : zG) (x0 : Nat) (t0 : zty G x0 1 9) (x1 : Int32) (x2 : Nat) (t2 : zty G x2 2 2) (v : zV) (r : Int32) (w : zV) (hfl9 : l.stackTraces = false) (h : fL_heir x0 x1 x2 v = some (r, w)) : zMetW l yL_heir cL_heir 4 (some .int) [((0 : Nat), (9 : Nat), (12 : Nat), (28 : Nat))] 9 258 1 6 [zr G x0, .int x1, zr G x2] G v (some (.int r)) w := by
  refine zMW_of (own := RL) (by decide) rfl (Nat.le_of_ble_eq_true rfl) (fun x hl F hr hk hcs htab => ?_)
  subst hl
  refine z_ls [(0, zr G x0), (1, .int x1), (2, zr G x2)] [0, 1, 2] rfl ?_
  refine z_aload_n F dL_heir_0 rfl 2 rfl ?_
  refine z_iconst (y := (0 : Int32)) F dL_heir_1 rfl ?_
  refine z_aload_n F dL_heir_2 rfl 0 rfl ?_
  refine z_iload_n F dL_heir_3 rfl 1 rfl ?_
  rcases zcatch_ex h with ⟨a1, v1, hq, hin, rfl, rfl⟩ | ⟨a1, hq, he⟩ | ⟨c1, a1, hq, he⟩
  · have hM9 := kX9_heir x.2.1 G x0 t0 x1 v 0 a1 v1 hfl9 hq
    refine z_xcall0 F [.int x1] [.int (0 : Int32), zr G x2] hM9 mI_X9_heir (c := 9) rfl t0 wM_L_119 mi_X9_heir sl_X9_heir dL_heir_4 rfl ⟨Nat.le_of_ble_eq_true rfl, Nat.le_of_ble_eq_true rfl⟩ rfl (Nat.le_of_ble_eq_true rfl) ⟨Nat.le_trans (Nat.le_of_ble_eq_true rfl) hcs.1, Nat.le_trans (Nat.le_of_ble_eq_true rfl) hcs.2⟩ ?_
    refine z_id (st := .int a1 :: [.int (0 : Int32), zr G x2]) ?_
    refine z_i2l F dL_heir_7 ?_
    refine z_last F t2 dL_heir_8 hin ?_
    refine z_goto F 15 dL_heir_9 rfl ?_
    refine z_iconst (y := (0 : Int32)) F dL_heir_15 rfl ?_
    exact z_reti F hr hk dL_heir_16
  · cases he
    have hM9 := kX9_heir x.2.1 G x0 t0 x1 v 1 a1 w hfl9 hq
    refine z_xcallC F (E := "java/util/NoSuchElementException") (cd := 0) [] ⟨0, 9, 12, 28⟩ [] htab rfl (fun z hz => absurd hz List.not_mem_nil) (by decide) (by decide) zck_L_28 zcc_N [.int x1] [.int (0 : Int32), zr G x2] hM9 mI_X9_heir (c := 9) rfl t0 wM_L_119 mi_X9_heir sl_X9_heir dL_heir_4 rfl ⟨Nat.le_of_ble_eq_true rfl, Nat.le_of_ble_eq_true rfl⟩ rfl (Nat.le_of_ble_eq_true rfl) ⟨Nat.le_trans (Nat.le_of_ble_eq_true rfl) hcs.1, Nat.le_trans (Nat.le_of_ble_eq_true rfl) hcs.2⟩ (fun q => ?_)
    refine z_astore_n F [(3, .ref q), (0, zr G x0), (1, .int x1), (2, zr G x2)] dL_heir_12 rfl (Nat.le_of_ble_eq_true rfl) rfl ?_
    refine z_iconst (y := (1 : Int32)) F dL_heir_13 rfl ?_
    exact z_reti F hr hk dL_heir_14
  · cases he

set_option maxRecDepth 20000 in
theorem kw_L_fates : Cond.codeWith yL_fates cL_fates 7 (some .int) [((0 : Nat), (14 : Nat), (17 : Nat), (13 : Nat))] ∈ zTbl := zTbl_of (zin_7 (List.mem_of_getElem? (i := 9) rfl)) rfl
theorem dL_fates_0 : decode cL_fates 0 = .ok (.aload 5, 2) := by decide +kernel
theorem dL_fates_2 : decode cL_fates 2 = .ok (.iconst 0, 1) := by decide +kernel
theorem dL_fates_3 : decode cL_fates 3 = .ok (.aload_n 0, 1) := by decide +kernel
theorem dL_fates_4 : decode cL_fates 4 = .ok (.iload_n 1, 1) := by decide +kernel
theorem dL_fates_5 : decode cL_fates 5 = .ok (.iload_n 2, 1) := by decide +kernel
theorem dL_fates_6 : decode cL_fates 6 = .ok (.iload_n 3, 1) := by decide +kernel
theorem dL_fates_7 : decode cL_fates 7 = .ok (.iload 4, 2) := by decide +kernel
theorem dL_fates_9 : decode cL_fates 9 = .ok (.invokevirtual 122, 3) := by decide +kernel
theorem dL_fates_12 : decode cL_fates 12 = .ok (.i2l, 1) := by decide +kernel
theorem dL_fates_13 : decode cL_fates 13 = .ok (.lastore, 1) := by decide +kernel
theorem dL_fates_14 : decode cL_fates 14 = .ok (.goto 7, 3) := by decide +kernel
theorem dL_fates_17 : decode cL_fates 17 = .ok (.astore 6, 2) := by decide +kernel
theorem dL_fates_19 : decode cL_fates 19 = .ok (.iconst 1, 1) := by decide +kernel
theorem dL_fates_20 : decode cL_fates 20 = .ok (.ireturn, 1) := by decide +kernel
theorem dL_fates_21 : decode cL_fates 21 = .ok (.iconst 0, 1) := by decide +kernel
theorem dL_fates_22 : decode cL_fates 22 = .ok (.ireturn, 1) := by decide +kernel
def fL_fates (x0 : Nat) (x1 : Int32) (x2 : Int32) (x3 : Int32) (x4 : Int32) (x5 : Nat) (v : zV) : Option (Int32 × zV) := zcatch (fX9_fates x0 x1 x2 x3 x4 v) x5 none (some 1)
set_option maxRecDepth 4000 in
theorem kL_fates (l : Launch) (G : zG) (x0 : Nat) (t0 : zty G x0 1 9) (x1 : Int32) (x2 : Int32) (x3 : Int32) (x4 : Int32) (x5 : Nat) (t5 : zty G x5 2 2) (v : zV) (r : Int32) (w : zV) (hfl9 : l.stackTraces = false) (h : fL_fates x0 x1 x2 x3 x4 x5 v = some (r, w)) : zMetW l yL_fates cL_fates 7 (some .int) [((0 : Nat), (14 : Nat), (17 : Nat), (13 : Nat))] 9 268 3 18 [zr G x0, .int x1, .int x2, .int x3, .int x4, zr G x5] G v (some (.int r)) w := by
  refine zMW_of (own := RL) (by decide) rfl (Nat.le_of_ble_eq_true rfl) (fun x hl F hr hk hcs htab => ?_)
  subst hl
  refine z_ls [(0, zr G x0), (1, .int x1), (2, .int x2), (3, .int x3), (4, .int x4), (5, zr G x5)] [0, 1, 2, 3, 4, 5] rfl ?_
  refine z_aload F dL_fates_0 5 rfl ?_
  refine z_iconst (y := (0 : Int32)) F dL_fates_2 rfl ?_
  refine z_aload_n F dL_fates_3 rfl 0 rfl ?_
  refine z_iload_n F dL_fates_4 rfl 1 rfl ?_
  refine z_iload_n F dL_fates_5 rfl 2 rfl ?_
  refine z_iload_n F dL_fates_6 rfl 3 rfl ?_
  refine z_iload F dL_fates_7 4 rfl ?_
  rcases zcatch_ex h with ⟨a1, v1, hq, hin, rfl, rfl⟩ | ⟨a1, hq, he⟩ | ⟨c1, a1, hq, he⟩
  · have hM9 := kX9_fates x.2.1 G x0 t0 x1 x2 x3 x4 v 0 a1 v1 hfl9 hq
    refine z_xcall0 F [.int x1, .int x2, .int x3, .int x4] [.int (0 : Int32), zr G x5] hM9 mI_X9_fates (c := 9) rfl t0 wM_L_122 mi_X9_fates sl_X9_fates dL_fates_9 rfl ⟨Nat.le_of_ble_eq_true rfl, Nat.le_of_ble_eq_true rfl⟩ rfl (Nat.le_of_ble_eq_true rfl) ⟨Nat.le_trans (Nat.le_of_ble_eq_true rfl) hcs.1, Nat.le_trans (Nat.le_of_ble_eq_true rfl) hcs.2⟩ ?_
    refine z_id (st := .int a1 :: [.int (0 : Int32), zr G x5]) ?_
    refine z_i2l F dL_fates_12 ?_
    refine z_last F t5 dL_fates_13 hin ?_
    refine z_goto F 21 dL_fates_14 rfl ?_
    refine z_iconst (y := (0 : Int32)) F dL_fates_21 rfl ?_
    exact z_reti F hr hk dL_fates_22
  · cases he
  · cases he
    have hM9 := kX9_fates x.2.1 G x0 t0 x1 x2 x3 x4 v (c1 + 2) a1 w hfl9 hq
    refine z_xcallC F (E := "java/lang/IllegalArgumentException") (cd := c1 + 1) [] ⟨0, 14, 17, 13⟩ [] htab (zEx2 c1) (fun z hz => absurd hz List.not_mem_nil) (by decide) (by decide) zck_L_13 zcc_A [.int x1, .int x2, .int x3, .int x4] [.int (0 : Int32), zr G x5] hM9 mI_X9_fates (c := 9) rfl t0 wM_L_122 mi_X9_fates sl_X9_fates dL_fates_9 rfl ⟨Nat.le_of_ble_eq_true rfl, Nat.le_of_ble_eq_true rfl⟩ rfl (Nat.le_of_ble_eq_true rfl) ⟨Nat.le_trans (Nat.le_of_ble_eq_true rfl) hcs.1, Nat.le_trans (Nat.le_of_ble_eq_true rfl) hcs.2⟩ (fun q => ?_)
    refine z_astore (n := 0) F [(6, .ref q), (0, zr G x0), (1, .int x1), (2, .int x2), (3, .int x3), (4, .int x4), (5, zr G x5)] dL_fates_17 (Nat.le_of_ble_eq_true rfl) rfl ?_
    refine z_iconst (y := (1 : Int32)) F dL_fates_19 rfl ?_
    exact z_reti F hr hk dL_fates_20

set_option maxRecDepth 20000 in
theorem kw_L_span : Cond.codeWith yL_span cL_span 9 (some .int) [((0 : Nat), (18 : Nat), (21 : Nat), (13 : Nat))] ∈ zTbl := zTbl_of (zin_7 (List.mem_of_getElem? (i := 30) rfl)) rfl
theorem dL_span_0 : decode cL_span 0 = .ok (.aload 7, 2) := by decide +kernel
theorem dL_span_2 : decode cL_span 2 = .ok (.iconst 0, 1) := by decide +kernel
theorem dL_span_3 : decode cL_span 3 = .ok (.aload_n 0, 1) := by decide +kernel
theorem dL_span_4 : decode cL_span 4 = .ok (.iload_n 1, 1) := by decide +kernel
theorem dL_span_5 : decode cL_span 5 = .ok (.iload_n 2, 1) := by decide +kernel
theorem dL_span_6 : decode cL_span 6 = .ok (.iload_n 3, 1) := by decide +kernel
theorem dL_span_7 : decode cL_span 7 = .ok (.iload 4, 2) := by decide +kernel
theorem dL_span_9 : decode cL_span 9 = .ok (.iload 5, 2) := by decide +kernel
theorem dL_span_11 : decode cL_span 11 = .ok (.iload 6, 2) := by decide +kernel
theorem dL_span_13 : decode cL_span 13 = .ok (.invokevirtual 125, 3) := by decide +kernel
theorem dL_span_16 : decode cL_span 16 = .ok (.i2l, 1) := by decide +kernel
theorem dL_span_17 : decode cL_span 17 = .ok (.lastore, 1) := by decide +kernel
theorem dL_span_18 : decode cL_span 18 = .ok (.goto 7, 3) := by decide +kernel
theorem dL_span_21 : decode cL_span 21 = .ok (.astore 8, 2) := by decide +kernel
theorem dL_span_23 : decode cL_span 23 = .ok (.iconst 1, 1) := by decide +kernel
theorem dL_span_24 : decode cL_span 24 = .ok (.ireturn, 1) := by decide +kernel
theorem dL_span_25 : decode cL_span 25 = .ok (.iconst 0, 1) := by decide +kernel
theorem dL_span_26 : decode cL_span 26 = .ok (.ireturn, 1) := by decide +kernel
def fL_span (x0 : Nat) (x1 : Int32) (x2 : Int32) (x3 : Int32) (x4 : Int32) (x5 : Int32) (x6 : Int32) (x7 : Nat) (v : zV) : Option (Int32 × zV) := zcatch (fX9_span x0 x1 x2 x3 x4 x5 x6 v) x7 none (some 1)
set_option maxRecDepth 4000 in
theorem kL_span (l : Launch) (G : zG) (x0 : Nat) (t0 : zty G x0 1 9) (x1 : Int32) (x2 : Int32) (x3 : Int32) (x4 : Int32) (x5 : Int32) (x6 : Int32) (x7 : Nat) (t7 : zty G x7 2 2) (v : zV) (r : Int32) (w : zV) (hfl9 : l.stackTraces = false) (h : fL_span x0 x1 x2 x3 x4 x5 x6 x7 v = some (r, w)) : zMetW l yL_span cL_span 9 (some .int) [((0 : Nat), (18 : Nat), (21 : Nat), (13 : Nat))] 9 272 5 30 [zr G x0, .int x1, .int x2, .int x3, .int x4, .int x5, .int x6, zr G x7] G v (some (.int r)) w := by
  refine zMW_of (own := RL) (by decide) rfl (Nat.le_of_ble_eq_true rfl) (fun x hl F hr hk hcs htab => ?_)
  subst hl
  refine z_ls [(0, zr G x0), (1, .int x1), (2, .int x2), (3, .int x3), (4, .int x4), (5, .int x5), (6, .int x6), (7, zr G x7)] [0, 1, 2, 3, 4, 5, 6, 7] rfl ?_
  refine z_aload F dL_span_0 7 rfl ?_
  refine z_iconst (y := (0 : Int32)) F dL_span_2 rfl ?_
  refine z_aload_n F dL_span_3 rfl 0 rfl ?_
  refine z_iload_n F dL_span_4 rfl 1 rfl ?_
  refine z_iload_n F dL_span_5 rfl 2 rfl ?_
  refine z_iload_n F dL_span_6 rfl 3 rfl ?_
  refine z_iload F dL_span_7 4 rfl ?_
  refine z_iload F dL_span_9 5 rfl ?_
  refine z_iload F dL_span_11 6 rfl ?_
  rcases zcatch_ex h with ⟨a1, v1, hq, hin, rfl, rfl⟩ | ⟨a1, hq, he⟩ | ⟨c1, a1, hq, he⟩
  · have hM9 := kX9_span x.2.1 G x0 t0 x1 x2 x3 x4 x5 x6 v 0 a1 v1 hfl9 hq
    refine z_xcall0 F [.int x1, .int x2, .int x3, .int x4, .int x5, .int x6] [.int (0 : Int32), zr G x7] hM9 mI_X9_span (c := 9) rfl t0 wM_L_125 mi_X9_span sl_X9_span dL_span_13 rfl ⟨Nat.le_of_ble_eq_true rfl, Nat.le_of_ble_eq_true rfl⟩ rfl (Nat.le_of_ble_eq_true rfl) ⟨Nat.le_trans (Nat.le_of_ble_eq_true rfl) hcs.1, Nat.le_trans (Nat.le_of_ble_eq_true rfl) hcs.2⟩ ?_
    refine z_id (st := .int a1 :: [.int (0 : Int32), zr G x7]) ?_
    refine z_i2l F dL_span_16 ?_
    refine z_last F t7 dL_span_17 hin ?_
    refine z_goto F 25 dL_span_18 rfl ?_
    refine z_iconst (y := (0 : Int32)) F dL_span_25 rfl ?_
    exact z_reti F hr hk dL_span_26
  · cases he
  · cases he
    have hM9 := kX9_span x.2.1 G x0 t0 x1 x2 x3 x4 x5 x6 v (c1 + 2) a1 w hfl9 hq
    refine z_xcallC F (E := "java/lang/IllegalArgumentException") (cd := c1 + 1) [] ⟨0, 18, 21, 13⟩ [] htab (zEx2 c1) (fun z hz => absurd hz List.not_mem_nil) (by decide) (by decide) zck_L_13 zcc_A [.int x1, .int x2, .int x3, .int x4, .int x5, .int x6] [.int (0 : Int32), zr G x7] hM9 mI_X9_span (c := 9) rfl t0 wM_L_125 mi_X9_span sl_X9_span dL_span_13 rfl ⟨Nat.le_of_ble_eq_true rfl, Nat.le_of_ble_eq_true rfl⟩ rfl (Nat.le_of_ble_eq_true rfl) ⟨Nat.le_trans (Nat.le_of_ble_eq_true rfl) hcs.1, Nat.le_trans (Nat.le_of_ble_eq_true rfl) hcs.2⟩ (fun q => ?_)
    refine z_astore (n := 0) F [(8, .ref q), (0, zr G x0), (1, .int x1), (2, .int x2), (3, .int x3), (4, .int x4), (5, .int x5), (6, .int x6), (7, zr G x7)] dL_span_21 (Nat.le_of_ble_eq_true rfl) rfl ?_
    refine z_iconst (y := (1 : Int32)) F dL_span_23 rfl ?_
    exact z_reti F hr hk dL_span_24

