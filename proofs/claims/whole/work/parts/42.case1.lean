theorem dL_law__766 : decode cL_law_ 766 = .ok (.aload_n 1, 1) := by decide +kernel
theorem dL_law__767 : decode cL_law_ 767 = .ok (.aload_n 0, 1) := by decide +kernel
theorem dL_law__768 : decode cL_law_ 768 = .ok (.iload 4, 2) := by decide +kernel
theorem dL_law__770 : decode cL_law_ 770 = .ok (.iconst 1, 1) := by decide +kernel
theorem dL_law__771 : decode cL_law_ 771 = .ok (.iadd, 1) := by decide +kernel
theorem dL_law__772 : decode cL_law_ 772 = .ok (.iaload, 1) := by decide +kernel
theorem dL_law__773 : decode cL_law_ 773 = .ok (.aload_n 3, 1) := by decide +kernel
theorem dL_law__774 : decode cL_law_ 774 = .ok (.invokestatic 171, 3) := by decide +kernel
theorem dL_law__777 : decode cL_law_ 777 = .ok (.istore 5, 2) := by decide +kernel
theorem dL_law__779 : decode cL_law_ 779 = .ok (.aload_n 2, 1) := by decide +kernel
theorem dL_law__780 : decode cL_law_ 780 = .ok (.aload_n 0, 1) := by decide +kernel
theorem dL_law__781 : decode cL_law_ 781 = .ok (.iload 4, 2) := by decide +kernel
theorem dL_law__783 : decode cL_law_ 783 = .ok (.iconst 1, 1) := by decide +kernel
theorem dL_law__784 : decode cL_law_ 784 = .ok (.iadd, 1) := by decide +kernel
theorem dL_law__785 : decode cL_law_ 785 = .ok (.iaload, 1) := by decide +kernel
theorem dL_law__786 : decode cL_law_ 786 = .ok (.invokevirtual 173, 3) := by decide +kernel
theorem dL_law__789 : decode cL_law_ 789 = .ok (.istore 6, 2) := by decide +kernel
theorem dL_law__791 : decode cL_law_ 791 = .ok (.aload_n 2, 1) := by decide +kernel
theorem dL_law__792 : decode cL_law_ 792 = .ok (.invokevirtual 144, 3) := by decide +kernel
theorem dL_law__795 : decode cL_law_ 795 = .ok (.iload 5, 2) := by decide +kernel
theorem dL_law__797 : decode cL_law_ 797 = .ok (.if_icmp .eq 5, 3) := by decide +kernel
theorem dL_law__800 : decode cL_law_ 800 = .ok (.iconst 0, 1) := by decide +kernel
theorem dL_law__801 : decode cL_law_ 801 = .ok (.ireturn, 1) := by decide +kernel
theorem dL_law__802 : decode cL_law_ 802 = .ok (.iload 5, 2) := by decide +kernel
theorem dL_law__804 : decode cL_law_ 804 = .ok (.ifCond .ne 15, 3) := by decide +kernel
theorem dL_law__807 : decode cL_law_ 807 = .ok (.aload_n 3, 1) := by decide +kernel
theorem dL_law__808 : decode cL_law_ 808 = .ok (.iconst 0, 1) := by decide +kernel
theorem dL_law__809 : decode cL_law_ 809 = .ok (.laload, 1) := by decide +kernel
theorem dL_law__810 : decode cL_law_ 810 = .ok (.iload 6, 2) := by decide +kernel
theorem dL_law__812 : decode cL_law_ 812 = .ok (.i2l, 1) := by decide +kernel
theorem dL_law__813 : decode cL_law_ 813 = .ok (.lcmp, 1) := by decide +kernel
theorem dL_law__814 : decode cL_law_ 814 = .ok (.ifCond .eq 5, 3) := by decide +kernel
theorem dL_law__817 : decode cL_law_ 817 = .ok (.iconst 0, 1) := by decide +kernel
theorem dL_law__818 : decode cL_law_ 818 = .ok (.ireturn, 1) := by decide +kernel
theorem dL_law__819 : decode cL_law_ 819 = .ok (.goto 2098, 3) := by decide +kernel
def fLc_9 (p1 : Int32) (v : zV) : Option zV :=
  zbind (fL_chair 0 p1 603 v) fun r_2 v_1 =>
  zbind (fX10_chair 116 p1 v_1) fun r_4 v_3 =>
  zbind (fX10_thrown 116 v_3) fun r_6 v_5 =>
  if r_6 = r_2 then
    if r_2 = (0 : Int32) then
      zix (0 : Int32) (zlen 603) <|
      if (lg_cmp ((v_5 603 (0 : Int32).toNatClampNeg).toInt64) ((r_4).toInt64)) = (0 : Int32) then
        some v_5
      else
        none
    else
      some v_5
  else
    none
set_option maxRecDepth 8000 in
set_option maxHeartbeats 1000000 in
theorem jLc_9 {x : zCx} {G : zG} {fr lo b L : Nat} {xs : Nat → Int32} {Q : State → Prop} (F : zF x G cL_law_ 7 RL fr lo) (hfr : 400 ≤ fr ∧ 20000 ≤ lo) (hfl : x.2.1.stackTraces = false) (hX : va_X b L xs x.2.2.2.2.1 x.2.2.2.2.1.heap) (hbl : b < x.2.2.2.2.1.heap.size) (hbA : ¬ zA G b) (t0 : zty G 0 1 9) (t1 : zty G 116 1 10) (t3 : zty G 603 2 2) {j : Nat} (hj : j + 7 ≤ L) (hL : L < 2 ^ 31) {cs sl : Nat} (hcs : cs + 5 ≤ x.2.2.2.1.cells ∧ sl + 30 ≤ x.2.2.2.1.slots) (v w : zV) (h : fLc_9 (xs (j + 1)) v = some w) (kk : zJ x G 7 Q (cs + 5) (sl + 30) 2917 [(0, .ref b), (1, zr G 0), (2, zr G 116), (3, zr G 603), (4, .int (nI j))] [] w) : zJ x G 7 Q cs sl 766 [(0, .ref b), (1, zr G 0), (2, zr G 116), (3, zr G 603), (4, .int (nI j))] [] v := by
  obtain ⟨hfr1, hfr2⟩ := hfr
  obtain ⟨hcs1, hcs2⟩ := hcs
  unfold fLc_9 at h
  refine z_aload_n F dL_law__766 rfl 1 rfl ?_
  refine z_aload_n F dL_law__767 rfl 0 rfl ?_
  refine z_iload F dL_law__768 4 rfl ?_
  refine z_iconst (y := (1 : Int32)) F dL_law__770 rfl ?_
  refine z_iadd F dL_law__771 ?_
  refine z_sld F hX hbl hbA (nI_add j 1) (by omega) hL dL_law__772 ?_
  refine z_aload_n F dL_law__773 rfl 3 rfl ?_
  obtain ⟨r_2, v_1, hq774, h⟩ := zbind_ex h
  refine z_callSW (n := 3) F [zr G 0, .int (xs (j + 1)), zr G 603] [] (kL_chair x.2.1 G 0 t0 (xs (j + 1)) 603 t3 v r_2 v_1 hfl hq774) kw_L_chair wM_L_171 ms_L_chair dL_law__774 rfl (by decide +kernel) ⟨by omega, by omega⟩ rfl (Nat.le_of_ble_eq_true rfl) ⟨by omega, by omega⟩ ?_
  refine z_istore (n := 0) F [(5, .int r_2), (0, .ref b), (1, zr G 0), (2, zr G 116), (3, zr G 603), (4, .int (nI j))] dL_law__777 (Nat.le_of_ble_eq_true rfl) rfl ?_
  refine z_aload_n F dL_law__779 rfl 3 rfl ?_
  refine z_aload_n F dL_law__780 rfl 1 rfl ?_
  refine z_iload F dL_law__781 5 rfl ?_
  refine z_iconst (y := (1 : Int32)) F dL_law__783 rfl ?_
  refine z_iadd F dL_law__784 ?_
  refine z_sld F hX hbl hbA (nI_add j 1) (by omega) hL dL_law__785 ?_
  obtain ⟨r_4, v_3, hq786, h⟩ := zbind_ex h
  refine z_callVi F [.int (xs (j + 1))] [] (kX10_chair x.2.1 G 116 t1 (xs (j + 1)) v_1 r_4 v_3 hq786) mI_X10_chair (c := 10) rfl t1 wM_L_173 mi_X10_chair sl_X10_chair dL_law__786 rfl ⟨by omega, by omega⟩ rfl (Nat.le_of_ble_eq_true rfl) ⟨by omega, by omega⟩ ?_
  refine z_istore (n := 0) F [(6, .int r_4), (5, .int r_2), (0, .ref b), (1, zr G 0), (2, zr G 116), (3, zr G 603), (4, .int (nI j))] dL_law__789 (Nat.le_of_ble_eq_true rfl) rfl ?_
  refine z_aload_n F dL_law__791 rfl 4 rfl ?_
  obtain ⟨r_6, v_5, hq792, h⟩ := zbind_ex h
  refine z_callVi F [] [] (kX10_thrown x.2.1 G 116 t1 v_3 r_6 v_5 hq792) mI_X10_thrown (c := 10) rfl t1 wM_L_144 mi_X10_thrown sl_X10_thrown dL_law__792 rfl ⟨by omega, by omega⟩ rfl (Nat.le_of_ble_eq_true rfl) ⟨by omega, by omega⟩ ?_
  refine z_iload F dL_law__795 1 rfl ?_
  refine z_icmp_eq F 802 dL_law__797 rfl (fun hc => ?_) (fun hc => ?_)
  · replace h := zif_t hc h
    refine z_iload F dL_law__802 1 rfl ?_
    refine z_if_ne F 819 dL_law__804 rfl (fun hc => ?_) (fun hc => ?_)
    · replace h := zif_f hc h
      refine z_goto F 2917 dL_law__819 rfl ?_
      cases h
      refine z_ls [(0, .ref b), (1, zr G 0), (2, zr G 116), (3, zr G 603), (4, .int (nI j))] [2, 3, 4, 5, 6] rfl ?_
      exact z_wide (cs' := cs + 5) (sl' := sl + 30) (by omega) (by omega) kk
    · replace h := zif_t hc h
      refine z_aload_n F dL_law__807 rfl 5 rfl ?_
      refine z_iconst (y := (0 : Int32)) F dL_law__808 rfl ?_
      obtain ⟨hi809, h⟩ := zix_ex h
      refine z_lald F t3 dL_law__809 hi809 ?_
      refine z_iload F dL_law__810 0 rfl ?_
      refine z_i2l F dL_law__812 ?_
      refine z_lcmp F dL_law__813 ?_
      refine z_if_eq F 819 dL_law__814 rfl (fun hc => ?_) (fun hc => ?_)
      · replace h := zif_t hc h
        refine z_goto F 2917 dL_law__819 rfl ?_
        cases h
        refine z_ls [(0, .ref b), (1, zr G 0), (2, zr G 116), (3, zr G 603), (4, .int (nI j))] [2, 3, 4, 5, 6] rfl ?_
        exact z_wide (cs' := cs + 5) (sl' := sl + 30) (by omega) (by omega) kk
      · replace h := zif_f hc h
        exact absurd h (by intro q; cases q)
  · replace h := zif_f hc h
    exact absurd h (by intro q; cases q)

theorem dL_law__822 : decode cL_law_ 822 = .ok (.aload_n 1, 1) := by decide +kernel
theorem dL_law__823 : decode cL_law_ 823 = .ok (.aload_n 0, 1) := by decide +kernel
theorem dL_law__824 : decode cL_law_ 824 = .ok (.iload 4, 2) := by decide +kernel
theorem dL_law__826 : decode cL_law_ 826 = .ok (.iconst 1, 1) := by decide +kernel
theorem dL_law__827 : decode cL_law_ 827 = .ok (.iadd, 1) := by decide +kernel
theorem dL_law__828 : decode cL_law_ 828 = .ok (.iaload, 1) := by decide +kernel
theorem dL_law__829 : decode cL_law_ 829 = .ok (.aload_n 0, 1) := by decide +kernel
theorem dL_law__830 : decode cL_law_ 830 = .ok (.iload 4, 2) := by decide +kernel
theorem dL_law__832 : decode cL_law_ 832 = .ok (.iconst 2, 1) := by decide +kernel
theorem dL_law__833 : decode cL_law_ 833 = .ok (.iadd, 1) := by decide +kernel
theorem dL_law__834 : decode cL_law_ 834 = .ok (.iaload, 1) := by decide +kernel
theorem dL_law__835 : decode cL_law_ 835 = .ok (.aload_n 3, 1) := by decide +kernel
theorem dL_law__836 : decode cL_law_ 836 = .ok (.invokestatic 174, 3) := by decide +kernel
theorem dL_law__839 : decode cL_law_ 839 = .ok (.istore 5, 2) := by decide +kernel
theorem dL_law__841 : decode cL_law_ 841 = .ok (.aload_n 2, 1) := by decide +kernel
theorem dL_law__842 : decode cL_law_ 842 = .ok (.aload_n 0, 1) := by decide +kernel
theorem dL_law__843 : decode cL_law_ 843 = .ok (.iload 4, 2) := by decide +kernel
theorem dL_law__845 : decode cL_law_ 845 = .ok (.iconst 1, 1) := by decide +kernel
theorem dL_law__846 : decode cL_law_ 846 = .ok (.iadd, 1) := by decide +kernel
theorem dL_law__847 : decode cL_law_ 847 = .ok (.iaload, 1) := by decide +kernel
theorem dL_law__848 : decode cL_law_ 848 = .ok (.aload_n 0, 1) := by decide +kernel
theorem dL_law__849 : decode cL_law_ 849 = .ok (.iload 4, 2) := by decide +kernel
theorem dL_law__851 : decode cL_law_ 851 = .ok (.iconst 2, 1) := by decide +kernel
theorem dL_law__852 : decode cL_law_ 852 = .ok (.iadd, 1) := by decide +kernel
theorem dL_law__853 : decode cL_law_ 853 = .ok (.iaload, 1) := by decide +kernel
theorem dL_law__854 : decode cL_law_ 854 = .ok (.invokevirtual 176, 3) := by decide +kernel
theorem dL_law__857 : decode cL_law_ 857 = .ok (.istore 6, 2) := by decide +kernel
theorem dL_law__859 : decode cL_law_ 859 = .ok (.aload_n 2, 1) := by decide +kernel
theorem dL_law__860 : decode cL_law_ 860 = .ok (.invokevirtual 144, 3) := by decide +kernel
theorem dL_law__863 : decode cL_law_ 863 = .ok (.iload 5, 2) := by decide +kernel
theorem dL_law__865 : decode cL_law_ 865 = .ok (.if_icmp .eq 5, 3) := by decide +kernel
theorem dL_law__868 : decode cL_law_ 868 = .ok (.iconst 0, 1) := by decide +kernel
theorem dL_law__869 : decode cL_law_ 869 = .ok (.ireturn, 1) := by decide +kernel
theorem dL_law__870 : decode cL_law_ 870 = .ok (.iload 5, 2) := by decide +kernel
theorem dL_law__872 : decode cL_law_ 872 = .ok (.ifCond .ne 15, 3) := by decide +kernel
theorem dL_law__875 : decode cL_law_ 875 = .ok (.aload_n 3, 1) := by decide +kernel
theorem dL_law__876 : decode cL_law_ 876 = .ok (.iconst 0, 1) := by decide +kernel
theorem dL_law__877 : decode cL_law_ 877 = .ok (.laload, 1) := by decide +kernel
theorem dL_law__878 : decode cL_law_ 878 = .ok (.iload 6, 2) := by decide +kernel
theorem dL_law__880 : decode cL_law_ 880 = .ok (.i2l, 1) := by decide +kernel
theorem dL_law__881 : decode cL_law_ 881 = .ok (.lcmp, 1) := by decide +kernel
theorem dL_law__882 : decode cL_law_ 882 = .ok (.ifCond .eq 5, 3) := by decide +kernel
theorem dL_law__885 : decode cL_law_ 885 = .ok (.iconst 0, 1) := by decide +kernel
theorem dL_law__886 : decode cL_law_ 886 = .ok (.ireturn, 1) := by decide +kernel
theorem dL_law__887 : decode cL_law_ 887 = .ok (.goto 2030, 3) := by decide +kernel
def fLc_10 (p1 : Int32) (p2 : Int32) (v : zV) : Option zV :=
  zbind (fL_differs 0 p1 p2 603 v) fun r_2 v_1 =>
  zbind (fX10_differs 116 p1 p2 v_1) fun r_4 v_3 =>
  zbind (fX10_thrown 116 v_3) fun r_6 v_5 =>
  if r_6 = r_2 then
    if r_2 = (0 : Int32) then
      zix (0 : Int32) (zlen 603) <|
      if (lg_cmp ((v_5 603 (0 : Int32).toNatClampNeg).toInt64) ((r_4).toInt64)) = (0 : Int32) then
        some v_5
      else
        none
    else
      some v_5
  else
    none
set_option maxRecDepth 8000 in
set_option maxHeartbeats 1000000 in
theorem jLc_10 {x : zCx} {G : zG} {fr lo b L : Nat} {xs : Nat → Int32} {Q : State → Prop} (F : zF x G cL_law_ 7 RL fr lo) (hfr : 400 ≤ fr ∧ 20000 ≤ lo) (hfl : x.2.1.stackTraces = false) (hX : va_X b L xs x.2.2.2.2.1 x.2.2.2.2.1.heap) (hbl : b < x.2.2.2.2.1.heap.size) (hbA : ¬ zA G b) (t0 : zty G 0 1 9) (t1 : zty G 116 1 10) (t3 : zty G 603 2 2) {j : Nat} (hj : j + 7 ≤ L) (hL : L < 2 ^ 31) {cs sl : Nat} (hcs : cs + 5 ≤ x.2.2.2.1.cells ∧ sl + 30 ≤ x.2.2.2.1.slots) (v w : zV) (h : fLc_10 (xs (j + 1)) (xs (j + 2)) v = some w) (kk : zJ x G 7 Q (cs + 5) (sl + 30) 2917 [(0, .ref b), (1, zr G 0), (2, zr G 116), (3, zr G 603), (4, .int (nI j))] [] w) : zJ x G 7 Q cs sl 822 [(0, .ref b), (1, zr G 0), (2, zr G 116), (3, zr G 603), (4, .int (nI j))] [] v := by
  obtain ⟨hfr1, hfr2⟩ := hfr
  obtain ⟨hcs1, hcs2⟩ := hcs
  unfold fLc_10 at h
  refine z_aload_n F dL_law__822 rfl 1 rfl ?_
  refine z_aload_n F dL_law__823 rfl 0 rfl ?_
  refine z_iload F dL_law__824 4 rfl ?_
  refine z_iconst (y := (1 : Int32)) F dL_law__826 rfl ?_
  refine z_iadd F dL_law__827 ?_
  refine z_sld F hX hbl hbA (nI_add j 1) (by omega) hL dL_law__828 ?_
  refine z_aload_n F dL_law__829 rfl 0 rfl ?_
  refine z_iload F dL_law__830 4 rfl ?_
  refine z_iconst (y := (2 : Int32)) F dL_law__832 rfl ?_
  refine z_iadd F dL_law__833 ?_
  refine z_sld F hX hbl hbA (nI_add j 2) (by omega) hL dL_law__834 ?_
  refine z_aload_n F dL_law__835 rfl 3 rfl ?_
  obtain ⟨r_2, v_1, hq836, h⟩ := zbind_ex h
  refine z_callSW (n := 4) F [zr G 0, .int (xs (j + 1)), .int (xs (j + 2)), zr G 603] [] (kL_differs x.2.1 G 0 t0 (xs (j + 1)) (xs (j + 2)) 603 t3 v r_2 v_1 hfl hq836) kw_L_differs wM_L_174 ms_L_differs dL_law__836 rfl (by decide +kernel) ⟨by omega, by omega⟩ rfl (Nat.le_of_ble_eq_true rfl) ⟨by omega, by omega⟩ ?_
  refine z_istore (n := 0) F [(5, .int r_2), (0, .ref b), (1, zr G 0), (2, zr G 116), (3, zr G 603), (4, .int (nI j))] dL_law__839 (Nat.le_of_ble_eq_true rfl) rfl ?_
  refine z_aload_n F dL_law__841 rfl 3 rfl ?_
  refine z_aload_n F dL_law__842 rfl 1 rfl ?_
  refine z_iload F dL_law__843 5 rfl ?_
  refine z_iconst (y := (1 : Int32)) F dL_law__845 rfl ?_
  refine z_iadd F dL_law__846 ?_
  refine z_sld F hX hbl hbA (nI_add j 1) (by omega) hL dL_law__847 ?_
  refine z_aload_n F dL_law__848 rfl 1 rfl ?_
  refine z_iload F dL_law__849 5 rfl ?_
  refine z_iconst (y := (2 : Int32)) F dL_law__851 rfl ?_
  refine z_iadd F dL_law__852 ?_
  refine z_sld F hX hbl hbA (nI_add j 2) (by omega) hL dL_law__853 ?_
  obtain ⟨r_4, v_3, hq854, h⟩ := zbind_ex h
  refine z_callVi F [.int (xs (j + 1)), .int (xs (j + 2))] [] (kX10_differs x.2.1 G 116 t1 (xs (j + 1)) (xs (j + 2)) v_1 r_4 v_3 hq854) mI_X10_differs (c := 10) rfl t1 wM_L_176 mi_X10_differs sl_X10_differs dL_law__854 rfl ⟨by omega, by omega⟩ rfl (Nat.le_of_ble_eq_true rfl) ⟨by omega, by omega⟩ ?_
  refine z_istore (n := 0) F [(6, .int r_4), (5, .int r_2), (0, .ref b), (1, zr G 0), (2, zr G 116), (3, zr G 603), (4, .int (nI j))] dL_law__857 (Nat.le_of_ble_eq_true rfl) rfl ?_
  refine z_aload_n F dL_law__859 rfl 4 rfl ?_
  obtain ⟨r_6, v_5, hq860, h⟩ := zbind_ex h
  refine z_callVi F [] [] (kX10_thrown x.2.1 G 116 t1 v_3 r_6 v_5 hq860) mI_X10_thrown (c := 10) rfl t1 wM_L_144 mi_X10_thrown sl_X10_thrown dL_law__860 rfl ⟨by omega, by omega⟩ rfl (Nat.le_of_ble_eq_true rfl) ⟨by omega, by omega⟩ ?_
  refine z_iload F dL_law__863 1 rfl ?_
  refine z_icmp_eq F 870 dL_law__865 rfl (fun hc => ?_) (fun hc => ?_)
  · replace h := zif_t hc h
    refine z_iload F dL_law__870 1 rfl ?_
    refine z_if_ne F 887 dL_law__872 rfl (fun hc => ?_) (fun hc => ?_)
    · replace h := zif_f hc h
      refine z_goto F 2917 dL_law__887 rfl ?_
      cases h
      refine z_ls [(0, .ref b), (1, zr G 0), (2, zr G 116), (3, zr G 603), (4, .int (nI j))] [2, 3, 4, 5, 6] rfl ?_
      exact z_wide (cs' := cs + 5) (sl' := sl + 30) (by omega) (by omega) kk
    · replace h := zif_t hc h
      refine z_aload_n F dL_law__875 rfl 5 rfl ?_
      refine z_iconst (y := (0 : Int32)) F dL_law__876 rfl ?_
      obtain ⟨hi877, h⟩ := zix_ex h
      refine z_lald F t3 dL_law__877 hi877 ?_
      refine z_iload F dL_law__878 0 rfl ?_
      refine z_i2l F dL_law__880 ?_
      refine z_lcmp F dL_law__881 ?_
      refine z_if_eq F 887 dL_law__882 rfl (fun hc => ?_) (fun hc => ?_)
      · replace h := zif_t hc h
        refine z_goto F 2917 dL_law__887 rfl ?_
        cases h
        refine z_ls [(0, .ref b), (1, zr G 0), (2, zr G 116), (3, zr G 603), (4, .int (nI j))] [2, 3, 4, 5, 6] rfl ?_
        exact z_wide (cs' := cs + 5) (sl' := sl + 30) (by omega) (by omega) kk
      · replace h := zif_f hc h
        exact absurd h (by intro q; cases q)
  · replace h := zif_f hc h
    exact absurd h (by intro q; cases q)

theorem dL_law__890 : decode cL_law_ 890 = .ok (.aload_n 1, 1) := by decide +kernel
theorem dL_law__891 : decode cL_law_ 891 = .ok (.aload_n 0, 1) := by decide +kernel
theorem dL_law__892 : decode cL_law_ 892 = .ok (.iload 4, 2) := by decide +kernel
theorem dL_law__894 : decode cL_law_ 894 = .ok (.iconst 1, 1) := by decide +kernel
theorem dL_law__895 : decode cL_law_ 895 = .ok (.iadd, 1) := by decide +kernel
theorem dL_law__896 : decode cL_law_ 896 = .ok (.iaload, 1) := by decide +kernel
theorem dL_law__897 : decode cL_law_ 897 = .ok (.aload_n 3, 1) := by decide +kernel
theorem dL_law__898 : decode cL_law_ 898 = .ok (.invokestatic 177, 3) := by decide +kernel
theorem dL_law__901 : decode cL_law_ 901 = .ok (.istore 5, 2) := by decide +kernel
theorem dL_law__903 : decode cL_law_ 903 = .ok (.aload_n 2, 1) := by decide +kernel
theorem dL_law__904 : decode cL_law_ 904 = .ok (.aload_n 0, 1) := by decide +kernel
theorem dL_law__905 : decode cL_law_ 905 = .ok (.iload 4, 2) := by decide +kernel
theorem dL_law__907 : decode cL_law_ 907 = .ok (.iconst 1, 1) := by decide +kernel
theorem dL_law__908 : decode cL_law_ 908 = .ok (.iadd, 1) := by decide +kernel
theorem dL_law__909 : decode cL_law_ 909 = .ok (.iaload, 1) := by decide +kernel
theorem dL_law__910 : decode cL_law_ 910 = .ok (.invokevirtual 179, 3) := by decide +kernel
theorem dL_law__913 : decode cL_law_ 913 = .ok (.istore 6, 2) := by decide +kernel
theorem dL_law__915 : decode cL_law_ 915 = .ok (.aload_n 2, 1) := by decide +kernel
theorem dL_law__916 : decode cL_law_ 916 = .ok (.invokevirtual 144, 3) := by decide +kernel
theorem dL_law__919 : decode cL_law_ 919 = .ok (.iload 5, 2) := by decide +kernel
theorem dL_law__921 : decode cL_law_ 921 = .ok (.if_icmp .eq 5, 3) := by decide +kernel
theorem dL_law__924 : decode cL_law_ 924 = .ok (.iconst 0, 1) := by decide +kernel
theorem dL_law__925 : decode cL_law_ 925 = .ok (.ireturn, 1) := by decide +kernel
theorem dL_law__926 : decode cL_law_ 926 = .ok (.iload 5, 2) := by decide +kernel
theorem dL_law__928 : decode cL_law_ 928 = .ok (.ifCond .ne 15, 3) := by decide +kernel
theorem dL_law__931 : decode cL_law_ 931 = .ok (.aload_n 3, 1) := by decide +kernel
theorem dL_law__932 : decode cL_law_ 932 = .ok (.iconst 0, 1) := by decide +kernel
theorem dL_law__933 : decode cL_law_ 933 = .ok (.laload, 1) := by decide +kernel
theorem dL_law__934 : decode cL_law_ 934 = .ok (.iload 6, 2) := by decide +kernel
theorem dL_law__936 : decode cL_law_ 936 = .ok (.i2l, 1) := by decide +kernel
theorem dL_law__937 : decode cL_law_ 937 = .ok (.lcmp, 1) := by decide +kernel
theorem dL_law__938 : decode cL_law_ 938 = .ok (.ifCond .eq 5, 3) := by decide +kernel
theorem dL_law__941 : decode cL_law_ 941 = .ok (.iconst 0, 1) := by decide +kernel
theorem dL_law__942 : decode cL_law_ 942 = .ok (.ireturn, 1) := by decide +kernel
theorem dL_law__943 : decode cL_law_ 943 = .ok (.goto 1974, 3) := by decide +kernel
def fLc_11 (p1 : Int32) (v : zV) : Option zV :=
  zbind (fL_score 0 p1 603 v) fun r_2 v_1 =>
  zbind (fX10_score 116 p1 v_1) fun r_4 v_3 =>
  zbind (fX10_thrown 116 v_3) fun r_6 v_5 =>
  if r_6 = r_2 then
    if r_2 = (0 : Int32) then
      zix (0 : Int32) (zlen 603) <|
      if (lg_cmp ((v_5 603 (0 : Int32).toNatClampNeg).toInt64) ((r_4).toInt64)) = (0 : Int32) then
        some v_5
      else
        none
    else
      some v_5
  else
    none
set_option maxRecDepth 8000 in
set_option maxHeartbeats 1000000 in
theorem jLc_11 {x : zCx} {G : zG} {fr lo b L : Nat} {xs : Nat → Int32} {Q : State → Prop} (F : zF x G cL_law_ 7 RL fr lo) (hfr : 400 ≤ fr ∧ 20000 ≤ lo) (hfl : x.2.1.stackTraces = false) (hX : va_X b L xs x.2.2.2.2.1 x.2.2.2.2.1.heap) (hbl : b < x.2.2.2.2.1.heap.size) (hbA : ¬ zA G b) (t0 : zty G 0 1 9) (t1 : zty G 116 1 10) (t3 : zty G 603 2 2) {j : Nat} (hj : j + 7 ≤ L) (hL : L < 2 ^ 31) {cs sl : Nat} (hcs : cs + 5 ≤ x.2.2.2.1.cells ∧ sl + 30 ≤ x.2.2.2.1.slots) (v w : zV) (h : fLc_11 (xs (j + 1)) v = some w) (kk : zJ x G 7 Q (cs + 5) (sl + 30) 2917 [(0, .ref b), (1, zr G 0), (2, zr G 116), (3, zr G 603), (4, .int (nI j))] [] w) : zJ x G 7 Q cs sl 890 [(0, .ref b), (1, zr G 0), (2, zr G 116), (3, zr G 603), (4, .int (nI j))] [] v := by
  obtain ⟨hfr1, hfr2⟩ := hfr
  obtain ⟨hcs1, hcs2⟩ := hcs
  unfold fLc_11 at h
  refine z_aload_n F dL_law__890 rfl 1 rfl ?_
  refine z_aload_n F dL_law__891 rfl 0 rfl ?_
  refine z_iload F dL_law__892 4 rfl ?_
  refine z_iconst (y := (1 : Int32)) F dL_law__894 rfl ?_
  refine z_iadd F dL_law__895 ?_
  refine z_sld F hX hbl hbA (nI_add j 1) (by omega) hL dL_law__896 ?_
  refine z_aload_n F dL_law__897 rfl 3 rfl ?_
  obtain ⟨r_2, v_1, hq898, h⟩ := zbind_ex h
  refine z_callSW (n := 3) F [zr G 0, .int (xs (j + 1)), zr G 603] [] (kL_score x.2.1 G 0 t0 (xs (j + 1)) 603 t3 v r_2 v_1 hfl hq898) kw_L_score wM_L_177 ms_L_score dL_law__898 rfl (by decide +kernel) ⟨by omega, by omega⟩ rfl (Nat.le_of_ble_eq_true rfl) ⟨by omega, by omega⟩ ?_
  refine z_istore (n := 0) F [(5, .int r_2), (0, .ref b), (1, zr G 0), (2, zr G 116), (3, zr G 603), (4, .int (nI j))] dL_law__901 (Nat.le_of_ble_eq_true rfl) rfl ?_
  refine z_aload_n F dL_law__903 rfl 3 rfl ?_
  refine z_aload_n F dL_law__904 rfl 1 rfl ?_
  refine z_iload F dL_law__905 5 rfl ?_
  refine z_iconst (y := (1 : Int32)) F dL_law__907 rfl ?_
  refine z_iadd F dL_law__908 ?_
  refine z_sld F hX hbl hbA (nI_add j 1) (by omega) hL dL_law__909 ?_
  obtain ⟨r_4, v_3, hq910, h⟩ := zbind_ex h
  refine z_callVi F [.int (xs (j + 1))] [] (kX10_score x.2.1 G 116 t1 (xs (j + 1)) v_1 r_4 v_3 hq910) mI_X10_score (c := 10) rfl t1 wM_L_179 mi_X10_score sl_X10_score dL_law__910 rfl ⟨by omega, by omega⟩ rfl (Nat.le_of_ble_eq_true rfl) ⟨by omega, by omega⟩ ?_
  refine z_istore (n := 0) F [(6, .int r_4), (5, .int r_2), (0, .ref b), (1, zr G 0), (2, zr G 116), (3, zr G 603), (4, .int (nI j))] dL_law__913 (Nat.le_of_ble_eq_true rfl) rfl ?_
  refine z_aload_n F dL_law__915 rfl 4 rfl ?_
  obtain ⟨r_6, v_5, hq916, h⟩ := zbind_ex h
  refine z_callVi F [] [] (kX10_thrown x.2.1 G 116 t1 v_3 r_6 v_5 hq916) mI_X10_thrown (c := 10) rfl t1 wM_L_144 mi_X10_thrown sl_X10_thrown dL_law__916 rfl ⟨by omega, by omega⟩ rfl (Nat.le_of_ble_eq_true rfl) ⟨by omega, by omega⟩ ?_
  refine z_iload F dL_law__919 1 rfl ?_
  refine z_icmp_eq F 926 dL_law__921 rfl (fun hc => ?_) (fun hc => ?_)
  · replace h := zif_t hc h
    refine z_iload F dL_law__926 1 rfl ?_
    refine z_if_ne F 943 dL_law__928 rfl (fun hc => ?_) (fun hc => ?_)
    · replace h := zif_f hc h
      refine z_goto F 2917 dL_law__943 rfl ?_
      cases h
      refine z_ls [(0, .ref b), (1, zr G 0), (2, zr G 116), (3, zr G 603), (4, .int (nI j))] [2, 3, 4, 5, 6] rfl ?_
      exact z_wide (cs' := cs + 5) (sl' := sl + 30) (by omega) (by omega) kk
    · replace h := zif_t hc h
      refine z_aload_n F dL_law__931 rfl 5 rfl ?_
      refine z_iconst (y := (0 : Int32)) F dL_law__932 rfl ?_
      obtain ⟨hi933, h⟩ := zix_ex h
      refine z_lald F t3 dL_law__933 hi933 ?_
      refine z_iload F dL_law__934 0 rfl ?_
      refine z_i2l F dL_law__936 ?_
      refine z_lcmp F dL_law__937 ?_
      refine z_if_eq F 943 dL_law__938 rfl (fun hc => ?_) (fun hc => ?_)
      · replace h := zif_t hc h
        refine z_goto F 2917 dL_law__943 rfl ?_
        cases h
        refine z_ls [(0, .ref b), (1, zr G 0), (2, zr G 116), (3, zr G 603), (4, .int (nI j))] [2, 3, 4, 5, 6] rfl ?_
        exact z_wide (cs' := cs + 5) (sl' := sl + 30) (by omega) (by omega) kk
      · replace h := zif_f hc h
        exact absurd h (by intro q; cases q)
  · replace h := zif_f hc h
    exact absurd h (by intro q; cases q)

theorem dL_law__946 : decode cL_law_ 946 = .ok (.aload_n 1, 1) := by decide +kernel
theorem dL_law__947 : decode cL_law_ 947 = .ok (.invokevirtual 180, 3) := by decide +kernel
theorem dL_law__950 : decode cL_law_ 950 = .ok (.aload_n 2, 1) := by decide +kernel
theorem dL_law__951 : decode cL_law_ 951 = .ok (.invokevirtual 183, 3) := by decide +kernel
theorem dL_law__954 : decode cL_law_ 954 = .ok (.if_icmp .eq 1963, 3) := by decide +kernel
theorem dL_law__957 : decode cL_law_ 957 = .ok (.iconst 0, 1) := by decide +kernel
theorem dL_law__958 : decode cL_law_ 958 = .ok (.ireturn, 1) := by decide +kernel
def fLc_12 (v : zV) : Option zV :=
  zbind (fX9_next 0 v) fun r_2 v_1 =>
  zbind (fX10_next 116 v_1) fun r_4 v_3 =>
  if r_2 = r_4 then
    some v_3
  else
    none
set_option maxRecDepth 8000 in
set_option maxHeartbeats 1000000 in
theorem jLc_12 {x : zCx} {G : zG} {fr lo b L : Nat} {xs : Nat → Int32} {Q : State → Prop} (F : zF x G cL_law_ 7 RL fr lo) (hfr : 400 ≤ fr ∧ 20000 ≤ lo) (hfl : x.2.1.stackTraces = false) (hX : va_X b L xs x.2.2.2.2.1 x.2.2.2.2.1.heap) (hbl : b < x.2.2.2.2.1.heap.size) (hbA : ¬ zA G b) (t0 : zty G 0 1 9) (t1 : zty G 116 1 10) (t3 : zty G 603 2 2) {j : Nat} (hj : j + 7 ≤ L) (hL : L < 2 ^ 31) {cs sl : Nat} (hcs : cs + 5 ≤ x.2.2.2.1.cells ∧ sl + 30 ≤ x.2.2.2.1.slots) (v w : zV) (h : fLc_12 v = some w) (kk : zJ x G 7 Q (cs + 5) (sl + 30) 2917 [(0, .ref b), (1, zr G 0), (2, zr G 116), (3, zr G 603), (4, .int (nI j))] [] w) : zJ x G 7 Q cs sl 946 [(0, .ref b), (1, zr G 0), (2, zr G 116), (3, zr G 603), (4, .int (nI j))] [] v := by
  obtain ⟨hfr1, hfr2⟩ := hfr
  obtain ⟨hcs1, hcs2⟩ := hcs
  unfold fLc_12 at h
  refine z_aload_n F dL_law__946 rfl 1 rfl ?_
  obtain ⟨r_2, v_1, hq947, h⟩ := zbind_ex h
  refine z_callVi F [] [] (kX9_next x.2.1 G 0 t0 v r_2 v_1 hq947) mI_X9_next (c := 9) rfl t0 wM_L_180 mi_X9_next sl_X9_next dL_law__947 rfl ⟨by omega, by omega⟩ rfl (Nat.le_of_ble_eq_true rfl) ⟨by omega, by omega⟩ ?_
  refine z_aload_n F dL_law__950 rfl 2 rfl ?_
  obtain ⟨r_4, v_3, hq951, h⟩ := zbind_ex h
  refine z_callVi F [] [.int r_2] (kX10_next x.2.1 G 116 t1 v_1 r_4 v_3 hq951) mI_X10_next (c := 10) rfl t1 wM_L_183 mi_X10_next sl_X10_next dL_law__951 rfl ⟨by omega, by omega⟩ rfl (Nat.le_of_ble_eq_true rfl) ⟨by omega, by omega⟩ ?_
  refine z_icmp_eq F 2917 dL_law__954 rfl (fun hc => ?_) (fun hc => ?_)
  · replace h := zif_t hc h
    cases h
    refine z_ls [(0, .ref b), (1, zr G 0), (2, zr G 116), (3, zr G 603), (4, .int (nI j))] [0, 1, 2, 3, 4] rfl ?_
    exact z_wide (cs' := cs + 5) (sl' := sl + 30) (by omega) (by omega) kk
  · replace h := zif_f hc h
    exact absurd h (by intro q; cases q)

theorem dL_law__959 : decode cL_law_ 959 = .ok (.aload_n 1, 1) := by decide +kernel
theorem dL_law__960 : decode cL_law_ 960 = .ok (.aload_n 0, 1) := by decide +kernel
theorem dL_law__961 : decode cL_law_ 961 = .ok (.iload 4, 2) := by decide +kernel
theorem dL_law__963 : decode cL_law_ 963 = .ok (.iconst 1, 1) := by decide +kernel
theorem dL_law__964 : decode cL_law_ 964 = .ok (.iadd, 1) := by decide +kernel
theorem dL_law__965 : decode cL_law_ 965 = .ok (.iaload, 1) := by decide +kernel
theorem dL_law__966 : decode cL_law_ 966 = .ok (.aload_n 3, 1) := by decide +kernel
theorem dL_law__967 : decode cL_law_ 967 = .ok (.invokestatic 184, 3) := by decide +kernel
theorem dL_law__970 : decode cL_law_ 970 = .ok (.istore 5, 2) := by decide +kernel
theorem dL_law__972 : decode cL_law_ 972 = .ok (.aload_n 2, 1) := by decide +kernel
theorem dL_law__973 : decode cL_law_ 973 = .ok (.aload_n 0, 1) := by decide +kernel
theorem dL_law__974 : decode cL_law_ 974 = .ok (.iload 4, 2) := by decide +kernel
theorem dL_law__976 : decode cL_law_ 976 = .ok (.iconst 1, 1) := by decide +kernel
theorem dL_law__977 : decode cL_law_ 977 = .ok (.iadd, 1) := by decide +kernel
theorem dL_law__978 : decode cL_law_ 978 = .ok (.iaload, 1) := by decide +kernel
theorem dL_law__979 : decode cL_law_ 979 = .ok (.invokevirtual 186, 3) := by decide +kernel
theorem dL_law__982 : decode cL_law_ 982 = .ok (.istore 6, 2) := by decide +kernel
theorem dL_law__984 : decode cL_law_ 984 = .ok (.aload_n 2, 1) := by decide +kernel
theorem dL_law__985 : decode cL_law_ 985 = .ok (.invokevirtual 144, 3) := by decide +kernel
theorem dL_law__988 : decode cL_law_ 988 = .ok (.iload 5, 2) := by decide +kernel
theorem dL_law__990 : decode cL_law_ 990 = .ok (.if_icmp .eq 5, 3) := by decide +kernel
theorem dL_law__993 : decode cL_law_ 993 = .ok (.iconst 0, 1) := by decide +kernel
theorem dL_law__994 : decode cL_law_ 994 = .ok (.ireturn, 1) := by decide +kernel
theorem dL_law__995 : decode cL_law_ 995 = .ok (.iload 5, 2) := by decide +kernel
theorem dL_law__997 : decode cL_law_ 997 = .ok (.ifCond .ne 15, 3) := by decide +kernel
theorem dL_law__1000 : decode cL_law_ 1000 = .ok (.aload_n 3, 1) := by decide +kernel
theorem dL_law__1001 : decode cL_law_ 1001 = .ok (.iconst 0, 1) := by decide +kernel
theorem dL_law__1002 : decode cL_law_ 1002 = .ok (.laload, 1) := by decide +kernel
theorem dL_law__1003 : decode cL_law_ 1003 = .ok (.iload 6, 2) := by decide +kernel
theorem dL_law__1005 : decode cL_law_ 1005 = .ok (.i2l, 1) := by decide +kernel
theorem dL_law__1006 : decode cL_law_ 1006 = .ok (.lcmp, 1) := by decide +kernel
theorem dL_law__1007 : decode cL_law_ 1007 = .ok (.ifCond .eq 5, 3) := by decide +kernel
theorem dL_law__1010 : decode cL_law_ 1010 = .ok (.iconst 0, 1) := by decide +kernel
theorem dL_law__1011 : decode cL_law_ 1011 = .ok (.ireturn, 1) := by decide +kernel
theorem dL_law__1012 : decode cL_law_ 1012 = .ok (.goto 1905, 3) := by decide +kernel
def fLc_13 (p1 : Int32) (v : zV) : Option zV :=
  zbind (fL_years 0 p1 603 v) fun r_2 v_1 =>
  zbind (fX10_years 116 p1 v_1) fun r_4 v_3 =>
  zbind (fX10_thrown 116 v_3) fun r_6 v_5 =>
  if r_6 = r_2 then
    if r_2 = (0 : Int32) then
      zix (0 : Int32) (zlen 603) <|
      if (lg_cmp ((v_5 603 (0 : Int32).toNatClampNeg).toInt64) ((r_4).toInt64)) = (0 : Int32) then
        some v_5
      else
        none
    else
      some v_5
  else
    none
set_option maxRecDepth 8000 in
set_option maxHeartbeats 1000000 in
theorem jLc_13 {x : zCx} {G : zG} {fr lo b L : Nat} {xs : Nat → Int32} {Q : State → Prop} (F : zF x G cL_law_ 7 RL fr lo) (hfr : 400 ≤ fr ∧ 20000 ≤ lo) (hfl : x.2.1.stackTraces = false) (hX : va_X b L xs x.2.2.2.2.1 x.2.2.2.2.1.heap) (hbl : b < x.2.2.2.2.1.heap.size) (hbA : ¬ zA G b) (t0 : zty G 0 1 9) (t1 : zty G 116 1 10) (t3 : zty G 603 2 2) {j : Nat} (hj : j + 7 ≤ L) (hL : L < 2 ^ 31) {cs sl : Nat} (hcs : cs + 5 ≤ x.2.2.2.1.cells ∧ sl + 30 ≤ x.2.2.2.1.slots) (v w : zV) (h : fLc_13 (xs (j + 1)) v = some w) (kk : zJ x G 7 Q (cs + 5) (sl + 30) 2917 [(0, .ref b), (1, zr G 0), (2, zr G 116), (3, zr G 603), (4, .int (nI j))] [] w) : zJ x G 7 Q cs sl 959 [(0, .ref b), (1, zr G 0), (2, zr G 116), (3, zr G 603), (4, .int (nI j))] [] v := by
  obtain ⟨hfr1, hfr2⟩ := hfr
  obtain ⟨hcs1, hcs2⟩ := hcs
  unfold fLc_13 at h
  refine z_aload_n F dL_law__959 rfl 1 rfl ?_
  refine z_aload_n F dL_law__960 rfl 0 rfl ?_
  refine z_iload F dL_law__961 4 rfl ?_
  refine z_iconst (y := (1 : Int32)) F dL_law__963 rfl ?_
  refine z_iadd F dL_law__964 ?_
  refine z_sld F hX hbl hbA (nI_add j 1) (by omega) hL dL_law__965 ?_
  refine z_aload_n F dL_law__966 rfl 3 rfl ?_
  obtain ⟨r_2, v_1, hq967, h⟩ := zbind_ex h
  refine z_callSW (n := 3) F [zr G 0, .int (xs (j + 1)), zr G 603] [] (kL_years x.2.1 G 0 t0 (xs (j + 1)) 603 t3 v r_2 v_1 hfl hq967) kw_L_years wM_L_184 ms_L_years dL_law__967 rfl (by decide +kernel) ⟨by omega, by omega⟩ rfl (Nat.le_of_ble_eq_true rfl) ⟨by omega, by omega⟩ ?_
  refine z_istore (n := 0) F [(5, .int r_2), (0, .ref b), (1, zr G 0), (2, zr G 116), (3, zr G 603), (4, .int (nI j))] dL_law__970 (Nat.le_of_ble_eq_true rfl) rfl ?_
  refine z_aload_n F dL_law__972 rfl 3 rfl ?_
  refine z_aload_n F dL_law__973 rfl 1 rfl ?_
  refine z_iload F dL_law__974 5 rfl ?_
  refine z_iconst (y := (1 : Int32)) F dL_law__976 rfl ?_
  refine z_iadd F dL_law__977 ?_
  refine z_sld F hX hbl hbA (nI_add j 1) (by omega) hL dL_law__978 ?_
  obtain ⟨r_4, v_3, hq979, h⟩ := zbind_ex h
  refine z_callVi F [.int (xs (j + 1))] [] (kX10_years x.2.1 G 116 t1 (xs (j + 1)) v_1 r_4 v_3 hq979) mI_X10_years (c := 10) rfl t1 wM_L_186 mi_X10_years sl_X10_years dL_law__979 rfl ⟨by omega, by omega⟩ rfl (Nat.le_of_ble_eq_true rfl) ⟨by omega, by omega⟩ ?_
  refine z_istore (n := 0) F [(6, .int r_4), (5, .int r_2), (0, .ref b), (1, zr G 0), (2, zr G 116), (3, zr G 603), (4, .int (nI j))] dL_law__982 (Nat.le_of_ble_eq_true rfl) rfl ?_
  refine z_aload_n F dL_law__984 rfl 4 rfl ?_
  obtain ⟨r_6, v_5, hq985, h⟩ := zbind_ex h
  refine z_callVi F [] [] (kX10_thrown x.2.1 G 116 t1 v_3 r_6 v_5 hq985) mI_X10_thrown (c := 10) rfl t1 wM_L_144 mi_X10_thrown sl_X10_thrown dL_law__985 rfl ⟨by omega, by omega⟩ rfl (Nat.le_of_ble_eq_true rfl) ⟨by omega, by omega⟩ ?_
  refine z_iload F dL_law__988 1 rfl ?_
  refine z_icmp_eq F 995 dL_law__990 rfl (fun hc => ?_) (fun hc => ?_)
  · replace h := zif_t hc h
    refine z_iload F dL_law__995 1 rfl ?_
    refine z_if_ne F 1012 dL_law__997 rfl (fun hc => ?_) (fun hc => ?_)
    · replace h := zif_f hc h
      refine z_goto F 2917 dL_law__1012 rfl ?_
      cases h
      refine z_ls [(0, .ref b), (1, zr G 0), (2, zr G 116), (3, zr G 603), (4, .int (nI j))] [2, 3, 4, 5, 6] rfl ?_
      exact z_wide (cs' := cs + 5) (sl' := sl + 30) (by omega) (by omega) kk
    · replace h := zif_t hc h
      refine z_aload_n F dL_law__1000 rfl 5 rfl ?_
      refine z_iconst (y := (0 : Int32)) F dL_law__1001 rfl ?_
      obtain ⟨hi1002, h⟩ := zix_ex h
      refine z_lald F t3 dL_law__1002 hi1002 ?_
      refine z_iload F dL_law__1003 0 rfl ?_
      refine z_i2l F dL_law__1005 ?_
      refine z_lcmp F dL_law__1006 ?_
      refine z_if_eq F 1012 dL_law__1007 rfl (fun hc => ?_) (fun hc => ?_)
      · replace h := zif_t hc h
        refine z_goto F 2917 dL_law__1012 rfl ?_
        cases h
        refine z_ls [(0, .ref b), (1, zr G 0), (2, zr G 116), (3, zr G 603), (4, .int (nI j))] [2, 3, 4, 5, 6] rfl ?_
        exact z_wide (cs' := cs + 5) (sl' := sl + 30) (by omega) (by omega) kk
      · replace h := zif_f hc h
        exact absurd h (by intro q; cases q)
  · replace h := zif_f hc h
    exact absurd h (by intro q; cases q)

theorem dL_law__1015 : decode cL_law_ 1015 = .ok (.aload_n 1, 1) := by decide +kernel
theorem dL_law__1016 : decode cL_law_ 1016 = .ok (.aload_n 0, 1) := by decide +kernel
theorem dL_law__1017 : decode cL_law_ 1017 = .ok (.iload 4, 2) := by decide +kernel
theorem dL_law__1019 : decode cL_law_ 1019 = .ok (.iconst 1, 1) := by decide +kernel
theorem dL_law__1020 : decode cL_law_ 1020 = .ok (.iadd, 1) := by decide +kernel
theorem dL_law__1021 : decode cL_law_ 1021 = .ok (.iaload, 1) := by decide +kernel
theorem dL_law__1022 : decode cL_law_ 1022 = .ok (.aload_n 3, 1) := by decide +kernel
theorem dL_law__1023 : decode cL_law_ 1023 = .ok (.invokestatic 187, 3) := by decide +kernel
theorem dL_law__1026 : decode cL_law_ 1026 = .ok (.istore 5, 2) := by decide +kernel
theorem dL_law__1028 : decode cL_law_ 1028 = .ok (.aload_n 2, 1) := by decide +kernel
theorem dL_law__1029 : decode cL_law_ 1029 = .ok (.aload_n 0, 1) := by decide +kernel
theorem dL_law__1030 : decode cL_law_ 1030 = .ok (.iload 4, 2) := by decide +kernel
theorem dL_law__1032 : decode cL_law_ 1032 = .ok (.iconst 1, 1) := by decide +kernel
theorem dL_law__1033 : decode cL_law_ 1033 = .ok (.iadd, 1) := by decide +kernel
theorem dL_law__1034 : decode cL_law_ 1034 = .ok (.iaload, 1) := by decide +kernel
theorem dL_law__1035 : decode cL_law_ 1035 = .ok (.invokevirtual 189, 3) := by decide +kernel
theorem dL_law__1038 : decode cL_law_ 1038 = .ok (.istore 6, 2) := by decide +kernel
theorem dL_law__1040 : decode cL_law_ 1040 = .ok (.aload_n 2, 1) := by decide +kernel
theorem dL_law__1041 : decode cL_law_ 1041 = .ok (.invokevirtual 144, 3) := by decide +kernel
theorem dL_law__1044 : decode cL_law_ 1044 = .ok (.iload 5, 2) := by decide +kernel
theorem dL_law__1046 : decode cL_law_ 1046 = .ok (.if_icmp .eq 5, 3) := by decide +kernel
theorem dL_law__1049 : decode cL_law_ 1049 = .ok (.iconst 0, 1) := by decide +kernel
theorem dL_law__1050 : decode cL_law_ 1050 = .ok (.ireturn, 1) := by decide +kernel
theorem dL_law__1051 : decode cL_law_ 1051 = .ok (.iload 5, 2) := by decide +kernel
theorem dL_law__1053 : decode cL_law_ 1053 = .ok (.ifCond .ne 15, 3) := by decide +kernel
theorem dL_law__1056 : decode cL_law_ 1056 = .ok (.aload_n 3, 1) := by decide +kernel
theorem dL_law__1057 : decode cL_law_ 1057 = .ok (.iconst 0, 1) := by decide +kernel
theorem dL_law__1058 : decode cL_law_ 1058 = .ok (.laload, 1) := by decide +kernel
theorem dL_law__1059 : decode cL_law_ 1059 = .ok (.iload 6, 2) := by decide +kernel
theorem dL_law__1061 : decode cL_law_ 1061 = .ok (.i2l, 1) := by decide +kernel
theorem dL_law__1062 : decode cL_law_ 1062 = .ok (.lcmp, 1) := by decide +kernel
theorem dL_law__1063 : decode cL_law_ 1063 = .ok (.ifCond .eq 5, 3) := by decide +kernel
theorem dL_law__1066 : decode cL_law_ 1066 = .ok (.iconst 0, 1) := by decide +kernel
theorem dL_law__1067 : decode cL_law_ 1067 = .ok (.ireturn, 1) := by decide +kernel
theorem dL_law__1068 : decode cL_law_ 1068 = .ok (.goto 1849, 3) := by decide +kernel
def fLc_14 (p1 : Int32) (v : zV) : Option zV :=
  zbind (fL_undo 0 p1 603 v) fun r_2 v_1 =>
  zbind (fX10_undo 116 p1 v_1) fun r_4 v_3 =>
  zbind (fX10_thrown 116 v_3) fun r_6 v_5 =>
  if r_6 = r_2 then
    if r_2 = (0 : Int32) then
      zix (0 : Int32) (zlen 603) <|
      if (lg_cmp ((v_5 603 (0 : Int32).toNatClampNeg).toInt64) ((r_4).toInt64)) = (0 : Int32) then
        some v_5
      else
        none
    else
      some v_5
  else
    none
set_option maxRecDepth 8000 in
set_option maxHeartbeats 1000000 in
theorem jLc_14 {x : zCx} {G : zG} {fr lo b L : Nat} {xs : Nat → Int32} {Q : State → Prop} (F : zF x G cL_law_ 7 RL fr lo) (hfr : 400 ≤ fr ∧ 20000 ≤ lo) (hfl : x.2.1.stackTraces = false) (hX : va_X b L xs x.2.2.2.2.1 x.2.2.2.2.1.heap) (hbl : b < x.2.2.2.2.1.heap.size) (hbA : ¬ zA G b) (t0 : zty G 0 1 9) (t1 : zty G 116 1 10) (t3 : zty G 603 2 2) {j : Nat} (hj : j + 7 ≤ L) (hL : L < 2 ^ 31) {cs sl : Nat} (hcs : cs + 5 ≤ x.2.2.2.1.cells ∧ sl + 30 ≤ x.2.2.2.1.slots) (v w : zV) (h : fLc_14 (xs (j + 1)) v = some w) (kk : zJ x G 7 Q (cs + 5) (sl + 30) 2917 [(0, .ref b), (1, zr G 0), (2, zr G 116), (3, zr G 603), (4, .int (nI j))] [] w) : zJ x G 7 Q cs sl 1015 [(0, .ref b), (1, zr G 0), (2, zr G 116), (3, zr G 603), (4, .int (nI j))] [] v := by
  obtain ⟨hfr1, hfr2⟩ := hfr
  obtain ⟨hcs1, hcs2⟩ := hcs
  unfold fLc_14 at h
  refine z_aload_n F dL_law__1015 rfl 1 rfl ?_
  refine z_aload_n F dL_law__1016 rfl 0 rfl ?_
  refine z_iload F dL_law__1017 4 rfl ?_
  refine z_iconst (y := (1 : Int32)) F dL_law__1019 rfl ?_
  refine z_iadd F dL_law__1020 ?_
  refine z_sld F hX hbl hbA (nI_add j 1) (by omega) hL dL_law__1021 ?_
  refine z_aload_n F dL_law__1022 rfl 3 rfl ?_
  obtain ⟨r_2, v_1, hq1023, h⟩ := zbind_ex h
  refine z_callSW (n := 3) F [zr G 0, .int (xs (j + 1)), zr G 603] [] (kL_undo x.2.1 G 0 t0 (xs (j + 1)) 603 t3 v r_2 v_1 hfl hq1023) kw_L_undo wM_L_187 ms_L_undo dL_law__1023 rfl (by decide +kernel) ⟨by omega, by omega⟩ rfl (Nat.le_of_ble_eq_true rfl) ⟨by omega, by omega⟩ ?_
  refine z_istore (n := 0) F [(5, .int r_2), (0, .ref b), (1, zr G 0), (2, zr G 116), (3, zr G 603), (4, .int (nI j))] dL_law__1026 (Nat.le_of_ble_eq_true rfl) rfl ?_
  refine z_aload_n F dL_law__1028 rfl 3 rfl ?_
  refine z_aload_n F dL_law__1029 rfl 1 rfl ?_
  refine z_iload F dL_law__1030 5 rfl ?_
  refine z_iconst (y := (1 : Int32)) F dL_law__1032 rfl ?_
  refine z_iadd F dL_law__1033 ?_
  refine z_sld F hX hbl hbA (nI_add j 1) (by omega) hL dL_law__1034 ?_
  obtain ⟨r_4, v_3, hq1035, h⟩ := zbind_ex h
  refine z_callVi F [.int (xs (j + 1))] [] (kX10_undo x.2.1 G 116 t1 (xs (j + 1)) v_1 r_4 v_3 hq1035) mI_X10_undo (c := 10) rfl t1 wM_L_189 mi_X10_undo sl_X10_undo dL_law__1035 rfl ⟨by omega, by omega⟩ rfl (Nat.le_of_ble_eq_true rfl) ⟨by omega, by omega⟩ ?_
  refine z_istore (n := 0) F [(6, .int r_4), (5, .int r_2), (0, .ref b), (1, zr G 0), (2, zr G 116), (3, zr G 603), (4, .int (nI j))] dL_law__1038 (Nat.le_of_ble_eq_true rfl) rfl ?_
  refine z_aload_n F dL_law__1040 rfl 4 rfl ?_
  obtain ⟨r_6, v_5, hq1041, h⟩ := zbind_ex h
  refine z_callVi F [] [] (kX10_thrown x.2.1 G 116 t1 v_3 r_6 v_5 hq1041) mI_X10_thrown (c := 10) rfl t1 wM_L_144 mi_X10_thrown sl_X10_thrown dL_law__1041 rfl ⟨by omega, by omega⟩ rfl (Nat.le_of_ble_eq_true rfl) ⟨by omega, by omega⟩ ?_
  refine z_iload F dL_law__1044 1 rfl ?_
  refine z_icmp_eq F 1051 dL_law__1046 rfl (fun hc => ?_) (fun hc => ?_)
  · replace h := zif_t hc h
    refine z_iload F dL_law__1051 1 rfl ?_
    refine z_if_ne F 1068 dL_law__1053 rfl (fun hc => ?_) (fun hc => ?_)
    · replace h := zif_f hc h
      refine z_goto F 2917 dL_law__1068 rfl ?_
      cases h
      refine z_ls [(0, .ref b), (1, zr G 0), (2, zr G 116), (3, zr G 603), (4, .int (nI j))] [2, 3, 4, 5, 6] rfl ?_
      exact z_wide (cs' := cs + 5) (sl' := sl + 30) (by omega) (by omega) kk
    · replace h := zif_t hc h
      refine z_aload_n F dL_law__1056 rfl 5 rfl ?_
      refine z_iconst (y := (0 : Int32)) F dL_law__1057 rfl ?_
      obtain ⟨hi1058, h⟩ := zix_ex h
      refine z_lald F t3 dL_law__1058 hi1058 ?_
      refine z_iload F dL_law__1059 0 rfl ?_
      refine z_i2l F dL_law__1061 ?_
      refine z_lcmp F dL_law__1062 ?_
      refine z_if_eq F 1068 dL_law__1063 rfl (fun hc => ?_) (fun hc => ?_)
      · replace h := zif_t hc h
        refine z_goto F 2917 dL_law__1068 rfl ?_
        cases h
        refine z_ls [(0, .ref b), (1, zr G 0), (2, zr G 116), (3, zr G 603), (4, .int (nI j))] [2, 3, 4, 5, 6] rfl ?_
        exact z_wide (cs' := cs + 5) (sl' := sl + 30) (by omega) (by omega) kk
      · replace h := zif_f hc h
        exact absurd h (by intro q; cases q)
  · replace h := zif_f hc h
    exact absurd h (by intro q; cases q)

theorem dL_law__1071 : decode cL_law_ 1071 = .ok (.aload_n 1, 1) := by decide +kernel
theorem dL_law__1072 : decode cL_law_ 1072 = .ok (.aload_n 0, 1) := by decide +kernel
theorem dL_law__1073 : decode cL_law_ 1073 = .ok (.iload 4, 2) := by decide +kernel
theorem dL_law__1075 : decode cL_law_ 1075 = .ok (.iconst 1, 1) := by decide +kernel
theorem dL_law__1076 : decode cL_law_ 1076 = .ok (.iadd, 1) := by decide +kernel
theorem dL_law__1077 : decode cL_law_ 1077 = .ok (.iaload, 1) := by decide +kernel
theorem dL_law__1078 : decode cL_law_ 1078 = .ok (.invokevirtual 190, 3) := by decide +kernel
theorem dL_law__1081 : decode cL_law_ 1081 = .ok (.aload_n 2, 1) := by decide +kernel
theorem dL_law__1082 : decode cL_law_ 1082 = .ok (.aload_n 0, 1) := by decide +kernel
theorem dL_law__1083 : decode cL_law_ 1083 = .ok (.iload 4, 2) := by decide +kernel
theorem dL_law__1085 : decode cL_law_ 1085 = .ok (.iconst 1, 1) := by decide +kernel
theorem dL_law__1086 : decode cL_law_ 1086 = .ok (.iadd, 1) := by decide +kernel
theorem dL_law__1087 : decode cL_law_ 1087 = .ok (.iaload, 1) := by decide +kernel
theorem dL_law__1088 : decode cL_law_ 1088 = .ok (.invokevirtual 193, 3) := by decide +kernel
theorem dL_law__1091 : decode cL_law_ 1091 = .ok (.if_icmp .eq 1826, 3) := by decide +kernel
theorem dL_law__1094 : decode cL_law_ 1094 = .ok (.iconst 0, 1) := by decide +kernel
theorem dL_law__1095 : decode cL_law_ 1095 = .ok (.ireturn, 1) := by decide +kernel
def fLc_15 (p1 : Int32) (v : zV) : Option zV :=
  zbind (fX9_taken 0 p1 v) fun r_2 v_1 =>
  zbind (fX10_taken 116 p1 v_1) fun r_4 v_3 =>
  if r_2 = r_4 then
    some v_3
  else
    none
set_option maxRecDepth 8000 in
set_option maxHeartbeats 1000000 in
theorem jLc_15 {x : zCx} {G : zG} {fr lo b L : Nat} {xs : Nat → Int32} {Q : State → Prop} (F : zF x G cL_law_ 7 RL fr lo) (hfr : 400 ≤ fr ∧ 20000 ≤ lo) (hfl : x.2.1.stackTraces = false) (hX : va_X b L xs x.2.2.2.2.1 x.2.2.2.2.1.heap) (hbl : b < x.2.2.2.2.1.heap.size) (hbA : ¬ zA G b) (t0 : zty G 0 1 9) (t1 : zty G 116 1 10) (t3 : zty G 603 2 2) {j : Nat} (hj : j + 7 ≤ L) (hL : L < 2 ^ 31) {cs sl : Nat} (hcs : cs + 5 ≤ x.2.2.2.1.cells ∧ sl + 30 ≤ x.2.2.2.1.slots) (v w : zV) (h : fLc_15 (xs (j + 1)) v = some w) (kk : zJ x G 7 Q (cs + 5) (sl + 30) 2917 [(0, .ref b), (1, zr G 0), (2, zr G 116), (3, zr G 603), (4, .int (nI j))] [] w) : zJ x G 7 Q cs sl 1071 [(0, .ref b), (1, zr G 0), (2, zr G 116), (3, zr G 603), (4, .int (nI j))] [] v := by
  obtain ⟨hfr1, hfr2⟩ := hfr
  obtain ⟨hcs1, hcs2⟩ := hcs
  unfold fLc_15 at h
  refine z_aload_n F dL_law__1071 rfl 1 rfl ?_
  refine z_aload_n F dL_law__1072 rfl 0 rfl ?_
  refine z_iload F dL_law__1073 4 rfl ?_
  refine z_iconst (y := (1 : Int32)) F dL_law__1075 rfl ?_
  refine z_iadd F dL_law__1076 ?_
  refine z_sld F hX hbl hbA (nI_add j 1) (by omega) hL dL_law__1077 ?_
  obtain ⟨r_2, v_1, hq1078, h⟩ := zbind_ex h
  refine z_callVi F [.int (xs (j + 1))] [] (kX9_taken x.2.1 G 0 t0 (xs (j + 1)) v r_2 v_1 hq1078) mI_X9_taken (c := 9) rfl t0 wM_L_190 mi_X9_taken sl_X9_taken dL_law__1078 rfl ⟨by omega, by omega⟩ rfl (Nat.le_of_ble_eq_true rfl) ⟨by omega, by omega⟩ ?_
  refine z_aload_n F dL_law__1081 rfl 2 rfl ?_
  refine z_aload_n F dL_law__1082 rfl 0 rfl ?_
  refine z_iload F dL_law__1083 4 rfl ?_
  refine z_iconst (y := (1 : Int32)) F dL_law__1085 rfl ?_
  refine z_iadd F dL_law__1086 ?_
  refine z_sld F hX hbl hbA (nI_add j 1) (by omega) hL dL_law__1087 ?_
  obtain ⟨r_4, v_3, hq1088, h⟩ := zbind_ex h
  refine z_callVi F [.int (xs (j + 1))] [.int r_2] (kX10_taken x.2.1 G 116 t1 (xs (j + 1)) v_1 r_4 v_3 hq1088) mI_X10_taken (c := 10) rfl t1 wM_L_193 mi_X10_taken sl_X10_taken dL_law__1088 rfl ⟨by omega, by omega⟩ rfl (Nat.le_of_ble_eq_true rfl) ⟨by omega, by omega⟩ ?_
  refine z_icmp_eq F 2917 dL_law__1091 rfl (fun hc => ?_) (fun hc => ?_)
  · replace h := zif_t hc h
    cases h
    refine z_ls [(0, .ref b), (1, zr G 0), (2, zr G 116), (3, zr G 603), (4, .int (nI j))] [0, 1, 2, 3, 4] rfl ?_
    exact z_wide (cs' := cs + 5) (sl' := sl + 30) (by omega) (by omega) kk
  · replace h := zif_f hc h
    exact absurd h (by intro q; cases q)

theorem dL_law__1096 : decode cL_law_ 1096 = .ok (.aload_n 1, 1) := by decide +kernel
theorem dL_law__1097 : decode cL_law_ 1097 = .ok (.aload_n 0, 1) := by decide +kernel
theorem dL_law__1098 : decode cL_law_ 1098 = .ok (.iload 4, 2) := by decide +kernel
theorem dL_law__1100 : decode cL_law_ 1100 = .ok (.iconst 1, 1) := by decide +kernel
theorem dL_law__1101 : decode cL_law_ 1101 = .ok (.iadd, 1) := by decide +kernel
theorem dL_law__1102 : decode cL_law_ 1102 = .ok (.iaload, 1) := by decide +kernel
theorem dL_law__1103 : decode cL_law_ 1103 = .ok (.aload_n 3, 1) := by decide +kernel
theorem dL_law__1104 : decode cL_law_ 1104 = .ok (.invokestatic 194, 3) := by decide +kernel
theorem dL_law__1107 : decode cL_law_ 1107 = .ok (.istore 5, 2) := by decide +kernel
theorem dL_law__1109 : decode cL_law_ 1109 = .ok (.aload_n 2, 1) := by decide +kernel
theorem dL_law__1110 : decode cL_law_ 1110 = .ok (.aload_n 0, 1) := by decide +kernel
theorem dL_law__1111 : decode cL_law_ 1111 = .ok (.iload 4, 2) := by decide +kernel
theorem dL_law__1113 : decode cL_law_ 1113 = .ok (.iconst 1, 1) := by decide +kernel
theorem dL_law__1114 : decode cL_law_ 1114 = .ok (.iadd, 1) := by decide +kernel
theorem dL_law__1115 : decode cL_law_ 1115 = .ok (.iaload, 1) := by decide +kernel
theorem dL_law__1116 : decode cL_law_ 1116 = .ok (.invokevirtual 196, 3) := by decide +kernel
theorem dL_law__1119 : decode cL_law_ 1119 = .ok (.istore 6, 2) := by decide +kernel
theorem dL_law__1121 : decode cL_law_ 1121 = .ok (.aload_n 2, 1) := by decide +kernel
theorem dL_law__1122 : decode cL_law_ 1122 = .ok (.invokevirtual 144, 3) := by decide +kernel
theorem dL_law__1125 : decode cL_law_ 1125 = .ok (.iload 5, 2) := by decide +kernel
theorem dL_law__1127 : decode cL_law_ 1127 = .ok (.if_icmp .eq 5, 3) := by decide +kernel
theorem dL_law__1130 : decode cL_law_ 1130 = .ok (.iconst 0, 1) := by decide +kernel
theorem dL_law__1131 : decode cL_law_ 1131 = .ok (.ireturn, 1) := by decide +kernel
theorem dL_law__1132 : decode cL_law_ 1132 = .ok (.iload 5, 2) := by decide +kernel
theorem dL_law__1134 : decode cL_law_ 1134 = .ok (.ifCond .ne 15, 3) := by decide +kernel
theorem dL_law__1137 : decode cL_law_ 1137 = .ok (.aload_n 3, 1) := by decide +kernel
theorem dL_law__1138 : decode cL_law_ 1138 = .ok (.iconst 0, 1) := by decide +kernel
theorem dL_law__1139 : decode cL_law_ 1139 = .ok (.laload, 1) := by decide +kernel
theorem dL_law__1140 : decode cL_law_ 1140 = .ok (.iload 6, 2) := by decide +kernel
theorem dL_law__1142 : decode cL_law_ 1142 = .ok (.i2l, 1) := by decide +kernel
theorem dL_law__1143 : decode cL_law_ 1143 = .ok (.lcmp, 1) := by decide +kernel
theorem dL_law__1144 : decode cL_law_ 1144 = .ok (.ifCond .eq 5, 3) := by decide +kernel
theorem dL_law__1147 : decode cL_law_ 1147 = .ok (.iconst 0, 1) := by decide +kernel
theorem dL_law__1148 : decode cL_law_ 1148 = .ok (.ireturn, 1) := by decide +kernel
theorem dL_law__1149 : decode cL_law_ 1149 = .ok (.goto 1768, 3) := by decide +kernel
def fLc_16 (p1 : Int32) (v : zV) : Option zV :=
  zbind (fL_sums 0 p1 603 v) fun r_2 v_1 =>
  zbind (fX10_sums 116 p1 v_1) fun r_4 v_3 =>
  zbind (fX10_thrown 116 v_3) fun r_6 v_5 =>
  if r_6 = r_2 then
    if r_2 = (0 : Int32) then
      zix (0 : Int32) (zlen 603) <|
      if (lg_cmp ((v_5 603 (0 : Int32).toNatClampNeg).toInt64) ((r_4).toInt64)) = (0 : Int32) then
        some v_5
      else
        none
    else
      some v_5
  else
    none
set_option maxRecDepth 8000 in
set_option maxHeartbeats 1000000 in
theorem jLc_16 {x : zCx} {G : zG} {fr lo b L : Nat} {xs : Nat → Int32} {Q : State → Prop} (F : zF x G cL_law_ 7 RL fr lo) (hfr : 400 ≤ fr ∧ 20000 ≤ lo) (hfl : x.2.1.stackTraces = false) (hX : va_X b L xs x.2.2.2.2.1 x.2.2.2.2.1.heap) (hbl : b < x.2.2.2.2.1.heap.size) (hbA : ¬ zA G b) (t0 : zty G 0 1 9) (t1 : zty G 116 1 10) (t3 : zty G 603 2 2) {j : Nat} (hj : j + 7 ≤ L) (hL : L < 2 ^ 31) {cs sl : Nat} (hcs : cs + 5 ≤ x.2.2.2.1.cells ∧ sl + 30 ≤ x.2.2.2.1.slots) (v w : zV) (h : fLc_16 (xs (j + 1)) v = some w) (kk : zJ x G 7 Q (cs + 5) (sl + 30) 2917 [(0, .ref b), (1, zr G 0), (2, zr G 116), (3, zr G 603), (4, .int (nI j))] [] w) : zJ x G 7 Q cs sl 1096 [(0, .ref b), (1, zr G 0), (2, zr G 116), (3, zr G 603), (4, .int (nI j))] [] v := by
  obtain ⟨hfr1, hfr2⟩ := hfr
  obtain ⟨hcs1, hcs2⟩ := hcs
  unfold fLc_16 at h
  refine z_aload_n F dL_law__1096 rfl 1 rfl ?_
  refine z_aload_n F dL_law__1097 rfl 0 rfl ?_
  refine z_iload F dL_law__1098 4 rfl ?_
  refine z_iconst (y := (1 : Int32)) F dL_law__1100 rfl ?_
  refine z_iadd F dL_law__1101 ?_
  refine z_sld F hX hbl hbA (nI_add j 1) (by omega) hL dL_law__1102 ?_
  refine z_aload_n F dL_law__1103 rfl 3 rfl ?_
  obtain ⟨r_2, v_1, hq1104, h⟩ := zbind_ex h
  refine z_callSW (n := 3) F [zr G 0, .int (xs (j + 1)), zr G 603] [] (kL_sums x.2.1 G 0 t0 (xs (j + 1)) 603 t3 v r_2 v_1 hfl hq1104) kw_L_sums wM_L_194 ms_L_sums dL_law__1104 rfl (by decide +kernel) ⟨by omega, by omega⟩ rfl (Nat.le_of_ble_eq_true rfl) ⟨by omega, by omega⟩ ?_
  refine z_istore (n := 0) F [(5, .int r_2), (0, .ref b), (1, zr G 0), (2, zr G 116), (3, zr G 603), (4, .int (nI j))] dL_law__1107 (Nat.le_of_ble_eq_true rfl) rfl ?_
  refine z_aload_n F dL_law__1109 rfl 3 rfl ?_
  refine z_aload_n F dL_law__1110 rfl 1 rfl ?_
  refine z_iload F dL_law__1111 5 rfl ?_
  refine z_iconst (y := (1 : Int32)) F dL_law__1113 rfl ?_
  refine z_iadd F dL_law__1114 ?_
  refine z_sld F hX hbl hbA (nI_add j 1) (by omega) hL dL_law__1115 ?_
  obtain ⟨r_4, v_3, hq1116, h⟩ := zbind_ex h
  refine z_callVi F [.int (xs (j + 1))] [] (kX10_sums x.2.1 G 116 t1 (xs (j + 1)) v_1 r_4 v_3 hq1116) mI_X10_sums (c := 10) rfl t1 wM_L_196 mi_X10_sums sl_X10_sums dL_law__1116 rfl ⟨by omega, by omega⟩ rfl (Nat.le_of_ble_eq_true rfl) ⟨by omega, by omega⟩ ?_
  refine z_istore (n := 0) F [(6, .int r_4), (5, .int r_2), (0, .ref b), (1, zr G 0), (2, zr G 116), (3, zr G 603), (4, .int (nI j))] dL_law__1119 (Nat.le_of_ble_eq_true rfl) rfl ?_
  refine z_aload_n F dL_law__1121 rfl 4 rfl ?_
  obtain ⟨r_6, v_5, hq1122, h⟩ := zbind_ex h
  refine z_callVi F [] [] (kX10_thrown x.2.1 G 116 t1 v_3 r_6 v_5 hq1122) mI_X10_thrown (c := 10) rfl t1 wM_L_144 mi_X10_thrown sl_X10_thrown dL_law__1122 rfl ⟨by omega, by omega⟩ rfl (Nat.le_of_ble_eq_true rfl) ⟨by omega, by omega⟩ ?_
  refine z_iload F dL_law__1125 1 rfl ?_
  refine z_icmp_eq F 1132 dL_law__1127 rfl (fun hc => ?_) (fun hc => ?_)
  · replace h := zif_t hc h
    refine z_iload F dL_law__1132 1 rfl ?_
    refine z_if_ne F 1149 dL_law__1134 rfl (fun hc => ?_) (fun hc => ?_)
    · replace h := zif_f hc h
      refine z_goto F 2917 dL_law__1149 rfl ?_
      cases h
      refine z_ls [(0, .ref b), (1, zr G 0), (2, zr G 116), (3, zr G 603), (4, .int (nI j))] [2, 3, 4, 5, 6] rfl ?_
      exact z_wide (cs' := cs + 5) (sl' := sl + 30) (by omega) (by omega) kk
    · replace h := zif_t hc h
      refine z_aload_n F dL_law__1137 rfl 5 rfl ?_
      refine z_iconst (y := (0 : Int32)) F dL_law__1138 rfl ?_
      obtain ⟨hi1139, h⟩ := zix_ex h
      refine z_lald F t3 dL_law__1139 hi1139 ?_
      refine z_iload F dL_law__1140 0 rfl ?_
      refine z_i2l F dL_law__1142 ?_
      refine z_lcmp F dL_law__1143 ?_
      refine z_if_eq F 1149 dL_law__1144 rfl (fun hc => ?_) (fun hc => ?_)
      · replace h := zif_t hc h
        refine z_goto F 2917 dL_law__1149 rfl ?_
        cases h
        refine z_ls [(0, .ref b), (1, zr G 0), (2, zr G 116), (3, zr G 603), (4, .int (nI j))] [2, 3, 4, 5, 6] rfl ?_
        exact z_wide (cs' := cs + 5) (sl' := sl + 30) (by omega) (by omega) kk
      · replace h := zif_f hc h
        exact absurd h (by intro q; cases q)
  · replace h := zif_f hc h
    exact absurd h (by intro q; cases q)

theorem dL_law__1152 : decode cL_law_ 1152 = .ok (.aload_n 1, 1) := by decide +kernel
theorem dL_law__1153 : decode cL_law_ 1153 = .ok (.aload_n 0, 1) := by decide +kernel
theorem dL_law__1154 : decode cL_law_ 1154 = .ok (.iload 4, 2) := by decide +kernel
theorem dL_law__1156 : decode cL_law_ 1156 = .ok (.iconst 1, 1) := by decide +kernel
theorem dL_law__1157 : decode cL_law_ 1157 = .ok (.iadd, 1) := by decide +kernel
theorem dL_law__1158 : decode cL_law_ 1158 = .ok (.iaload, 1) := by decide +kernel
theorem dL_law__1159 : decode cL_law_ 1159 = .ok (.aload_n 3, 1) := by decide +kernel
theorem dL_law__1160 : decode cL_law_ 1160 = .ok (.invokestatic 197, 3) := by decide +kernel
theorem dL_law__1163 : decode cL_law_ 1163 = .ok (.istore 5, 2) := by decide +kernel
theorem dL_law__1165 : decode cL_law_ 1165 = .ok (.aload_n 2, 1) := by decide +kernel
theorem dL_law__1166 : decode cL_law_ 1166 = .ok (.aload_n 0, 1) := by decide +kernel
theorem dL_law__1167 : decode cL_law_ 1167 = .ok (.iload 4, 2) := by decide +kernel
theorem dL_law__1169 : decode cL_law_ 1169 = .ok (.iconst 1, 1) := by decide +kernel
theorem dL_law__1170 : decode cL_law_ 1170 = .ok (.iadd, 1) := by decide +kernel
theorem dL_law__1171 : decode cL_law_ 1171 = .ok (.iaload, 1) := by decide +kernel
theorem dL_law__1172 : decode cL_law_ 1172 = .ok (.invokevirtual 199, 3) := by decide +kernel
theorem dL_law__1175 : decode cL_law_ 1175 = .ok (.istore 6, 2) := by decide +kernel
theorem dL_law__1177 : decode cL_law_ 1177 = .ok (.aload_n 2, 1) := by decide +kernel
theorem dL_law__1178 : decode cL_law_ 1178 = .ok (.invokevirtual 144, 3) := by decide +kernel
theorem dL_law__1181 : decode cL_law_ 1181 = .ok (.iload 5, 2) := by decide +kernel
theorem dL_law__1183 : decode cL_law_ 1183 = .ok (.if_icmp .eq 5, 3) := by decide +kernel
theorem dL_law__1186 : decode cL_law_ 1186 = .ok (.iconst 0, 1) := by decide +kernel
theorem dL_law__1187 : decode cL_law_ 1187 = .ok (.ireturn, 1) := by decide +kernel
theorem dL_law__1188 : decode cL_law_ 1188 = .ok (.iload 5, 2) := by decide +kernel
theorem dL_law__1190 : decode cL_law_ 1190 = .ok (.ifCond .ne 15, 3) := by decide +kernel
theorem dL_law__1193 : decode cL_law_ 1193 = .ok (.aload_n 3, 1) := by decide +kernel
theorem dL_law__1194 : decode cL_law_ 1194 = .ok (.iconst 0, 1) := by decide +kernel
theorem dL_law__1195 : decode cL_law_ 1195 = .ok (.laload, 1) := by decide +kernel
theorem dL_law__1196 : decode cL_law_ 1196 = .ok (.iload 6, 2) := by decide +kernel
theorem dL_law__1198 : decode cL_law_ 1198 = .ok (.i2l, 1) := by decide +kernel
theorem dL_law__1199 : decode cL_law_ 1199 = .ok (.lcmp, 1) := by decide +kernel
theorem dL_law__1200 : decode cL_law_ 1200 = .ok (.ifCond .eq 5, 3) := by decide +kernel
theorem dL_law__1203 : decode cL_law_ 1203 = .ok (.iconst 0, 1) := by decide +kernel
theorem dL_law__1204 : decode cL_law_ 1204 = .ok (.ireturn, 1) := by decide +kernel
theorem dL_law__1205 : decode cL_law_ 1205 = .ok (.goto 1712, 3) := by decide +kernel
def fLc_17 (p1 : Int32) (v : zV) : Option zV :=
  zbind (fL_die 0 p1 603 v) fun r_2 v_1 =>
  zbind (fX10_die 116 p1 v_1) fun r_4 v_3 =>
  zbind (fX10_thrown 116 v_3) fun r_6 v_5 =>
  if r_6 = r_2 then
    if r_2 = (0 : Int32) then
      zix (0 : Int32) (zlen 603) <|
      if (lg_cmp ((v_5 603 (0 : Int32).toNatClampNeg).toInt64) ((r_4).toInt64)) = (0 : Int32) then
        some v_5
      else
        none
    else
      some v_5
  else
    none
set_option maxRecDepth 8000 in
set_option maxHeartbeats 1000000 in
theorem jLc_17 {x : zCx} {G : zG} {fr lo b L : Nat} {xs : Nat → Int32} {Q : State → Prop} (F : zF x G cL_law_ 7 RL fr lo) (hfr : 400 ≤ fr ∧ 20000 ≤ lo) (hfl : x.2.1.stackTraces = false) (hX : va_X b L xs x.2.2.2.2.1 x.2.2.2.2.1.heap) (hbl : b < x.2.2.2.2.1.heap.size) (hbA : ¬ zA G b) (t0 : zty G 0 1 9) (t1 : zty G 116 1 10) (t3 : zty G 603 2 2) {j : Nat} (hj : j + 7 ≤ L) (hL : L < 2 ^ 31) {cs sl : Nat} (hcs : cs + 5 ≤ x.2.2.2.1.cells ∧ sl + 30 ≤ x.2.2.2.1.slots) (v w : zV) (h : fLc_17 (xs (j + 1)) v = some w) (kk : zJ x G 7 Q (cs + 5) (sl + 30) 2917 [(0, .ref b), (1, zr G 0), (2, zr G 116), (3, zr G 603), (4, .int (nI j))] [] w) : zJ x G 7 Q cs sl 1152 [(0, .ref b), (1, zr G 0), (2, zr G 116), (3, zr G 603), (4, .int (nI j))] [] v := by
  obtain ⟨hfr1, hfr2⟩ := hfr
  obtain ⟨hcs1, hcs2⟩ := hcs
  unfold fLc_17 at h
  refine z_aload_n F dL_law__1152 rfl 1 rfl ?_
  refine z_aload_n F dL_law__1153 rfl 0 rfl ?_
  refine z_iload F dL_law__1154 4 rfl ?_
  refine z_iconst (y := (1 : Int32)) F dL_law__1156 rfl ?_
  refine z_iadd F dL_law__1157 ?_
  refine z_sld F hX hbl hbA (nI_add j 1) (by omega) hL dL_law__1158 ?_
  refine z_aload_n F dL_law__1159 rfl 3 rfl ?_
  obtain ⟨r_2, v_1, hq1160, h⟩ := zbind_ex h
  refine z_callSW (n := 3) F [zr G 0, .int (xs (j + 1)), zr G 603] [] (kL_die x.2.1 G 0 t0 (xs (j + 1)) 603 t3 v r_2 v_1 hfl hq1160) kw_L_die wM_L_197 ms_L_die dL_law__1160 rfl (by decide +kernel) ⟨by omega, by omega⟩ rfl (Nat.le_of_ble_eq_true rfl) ⟨by omega, by omega⟩ ?_
  refine z_istore (n := 0) F [(5, .int r_2), (0, .ref b), (1, zr G 0), (2, zr G 116), (3, zr G 603), (4, .int (nI j))] dL_law__1163 (Nat.le_of_ble_eq_true rfl) rfl ?_
  refine z_aload_n F dL_law__1165 rfl 3 rfl ?_
  refine z_aload_n F dL_law__1166 rfl 1 rfl ?_
  refine z_iload F dL_law__1167 5 rfl ?_
  refine z_iconst (y := (1 : Int32)) F dL_law__1169 rfl ?_
  refine z_iadd F dL_law__1170 ?_
  refine z_sld F hX hbl hbA (nI_add j 1) (by omega) hL dL_law__1171 ?_
  obtain ⟨r_4, v_3, hq1172, h⟩ := zbind_ex h
  refine z_callVi F [.int (xs (j + 1))] [] (kX10_die x.2.1 G 116 t1 (xs (j + 1)) v_1 r_4 v_3 hq1172) mI_X10_die (c := 10) rfl t1 wM_L_199 mi_X10_die sl_X10_die dL_law__1172 rfl ⟨by omega, by omega⟩ rfl (Nat.le_of_ble_eq_true rfl) ⟨by omega, by omega⟩ ?_
  refine z_istore (n := 0) F [(6, .int r_4), (5, .int r_2), (0, .ref b), (1, zr G 0), (2, zr G 116), (3, zr G 603), (4, .int (nI j))] dL_law__1175 (Nat.le_of_ble_eq_true rfl) rfl ?_
  refine z_aload_n F dL_law__1177 rfl 4 rfl ?_
  obtain ⟨r_6, v_5, hq1178, h⟩ := zbind_ex h
  refine z_callVi F [] [] (kX10_thrown x.2.1 G 116 t1 v_3 r_6 v_5 hq1178) mI_X10_thrown (c := 10) rfl t1 wM_L_144 mi_X10_thrown sl_X10_thrown dL_law__1178 rfl ⟨by omega, by omega⟩ rfl (Nat.le_of_ble_eq_true rfl) ⟨by omega, by omega⟩ ?_
  refine z_iload F dL_law__1181 1 rfl ?_
  refine z_icmp_eq F 1188 dL_law__1183 rfl (fun hc => ?_) (fun hc => ?_)
  · replace h := zif_t hc h
    refine z_iload F dL_law__1188 1 rfl ?_
    refine z_if_ne F 1205 dL_law__1190 rfl (fun hc => ?_) (fun hc => ?_)
    · replace h := zif_f hc h
      refine z_goto F 2917 dL_law__1205 rfl ?_
      cases h
      refine z_ls [(0, .ref b), (1, zr G 0), (2, zr G 116), (3, zr G 603), (4, .int (nI j))] [2, 3, 4, 5, 6] rfl ?_
      exact z_wide (cs' := cs + 5) (sl' := sl + 30) (by omega) (by omega) kk
    · replace h := zif_t hc h
      refine z_aload_n F dL_law__1193 rfl 5 rfl ?_
      refine z_iconst (y := (0 : Int32)) F dL_law__1194 rfl ?_
      obtain ⟨hi1195, h⟩ := zix_ex h
      refine z_lald F t3 dL_law__1195 hi1195 ?_
      refine z_iload F dL_law__1196 0 rfl ?_
      refine z_i2l F dL_law__1198 ?_
      refine z_lcmp F dL_law__1199 ?_
      refine z_if_eq F 1205 dL_law__1200 rfl (fun hc => ?_) (fun hc => ?_)
      · replace h := zif_t hc h
        refine z_goto F 2917 dL_law__1205 rfl ?_
        cases h
        refine z_ls [(0, .ref b), (1, zr G 0), (2, zr G 116), (3, zr G 603), (4, .int (nI j))] [2, 3, 4, 5, 6] rfl ?_
        exact z_wide (cs' := cs + 5) (sl' := sl + 30) (by omega) (by omega) kk
      · replace h := zif_f hc h
        exact absurd h (by intro q; cases q)
  · replace h := zif_f hc h
    exact absurd h (by intro q; cases q)

