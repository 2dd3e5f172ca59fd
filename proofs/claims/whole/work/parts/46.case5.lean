theorem dL_law__2575 : decode cL_law_ 2575 = .ok (.aload_n 1, 1) := by decide +kernel
theorem dL_law__2576 : decode cL_law_ 2576 = .ok (.aload_n 0, 1) := by decide +kernel
theorem dL_law__2577 : decode cL_law_ 2577 = .ok (.iload 4, 2) := by decide +kernel
theorem dL_law__2579 : decode cL_law_ 2579 = .ok (.iconst 1, 1) := by decide +kernel
theorem dL_law__2580 : decode cL_law_ 2580 = .ok (.iadd, 1) := by decide +kernel
theorem dL_law__2581 : decode cL_law_ 2581 = .ok (.iaload, 1) := by decide +kernel
theorem dL_law__2582 : decode cL_law_ 2582 = .ok (.aload_n 3, 1) := by decide +kernel
theorem dL_law__2583 : decode cL_law_ 2583 = .ok (.invokestatic 290, 3) := by decide +kernel
theorem dL_law__2586 : decode cL_law_ 2586 = .ok (.istore 5, 2) := by decide +kernel
theorem dL_law__2588 : decode cL_law_ 2588 = .ok (.aload_n 2, 1) := by decide +kernel
theorem dL_law__2589 : decode cL_law_ 2589 = .ok (.aload_n 0, 1) := by decide +kernel
theorem dL_law__2590 : decode cL_law_ 2590 = .ok (.iload 4, 2) := by decide +kernel
theorem dL_law__2592 : decode cL_law_ 2592 = .ok (.iconst 1, 1) := by decide +kernel
theorem dL_law__2593 : decode cL_law_ 2593 = .ok (.iadd, 1) := by decide +kernel
theorem dL_law__2594 : decode cL_law_ 2594 = .ok (.iaload, 1) := by decide +kernel
theorem dL_law__2595 : decode cL_law_ 2595 = .ok (.invokevirtual 292, 3) := by decide +kernel
theorem dL_law__2598 : decode cL_law_ 2598 = .ok (.istore 6, 2) := by decide +kernel
theorem dL_law__2600 : decode cL_law_ 2600 = .ok (.aload_n 2, 1) := by decide +kernel
theorem dL_law__2601 : decode cL_law_ 2601 = .ok (.invokevirtual 144, 3) := by decide +kernel
theorem dL_law__2604 : decode cL_law_ 2604 = .ok (.iload 5, 2) := by decide +kernel
theorem dL_law__2606 : decode cL_law_ 2606 = .ok (.if_icmp .eq 5, 3) := by decide +kernel
theorem dL_law__2609 : decode cL_law_ 2609 = .ok (.iconst 0, 1) := by decide +kernel
theorem dL_law__2610 : decode cL_law_ 2610 = .ok (.ireturn, 1) := by decide +kernel
theorem dL_law__2611 : decode cL_law_ 2611 = .ok (.iload 5, 2) := by decide +kernel
theorem dL_law__2613 : decode cL_law_ 2613 = .ok (.ifCond .ne 15, 3) := by decide +kernel
theorem dL_law__2616 : decode cL_law_ 2616 = .ok (.aload_n 3, 1) := by decide +kernel
theorem dL_law__2617 : decode cL_law_ 2617 = .ok (.iconst 0, 1) := by decide +kernel
theorem dL_law__2618 : decode cL_law_ 2618 = .ok (.laload, 1) := by decide +kernel
theorem dL_law__2619 : decode cL_law_ 2619 = .ok (.iload 6, 2) := by decide +kernel
theorem dL_law__2621 : decode cL_law_ 2621 = .ok (.i2l, 1) := by decide +kernel
theorem dL_law__2622 : decode cL_law_ 2622 = .ok (.lcmp, 1) := by decide +kernel
theorem dL_law__2623 : decode cL_law_ 2623 = .ok (.ifCond .eq 5, 3) := by decide +kernel
theorem dL_law__2626 : decode cL_law_ 2626 = .ok (.iconst 0, 1) := by decide +kernel
theorem dL_law__2627 : decode cL_law_ 2627 = .ok (.ireturn, 1) := by decide +kernel
theorem dL_law__2628 : decode cL_law_ 2628 = .ok (.goto 289, 3) := by decide +kernel
def fLc_45 (p1 : Int32) (v : zV) : Option zV :=
  zbind (fL_heir 0 p1 603 v) fun r_2 v_1 =>
  zbind (fX10_heir 116 p1 v_1) fun r_4 v_3 =>
  zbind (fX10_thrown 116 v_3) fun r_6 v_5 =>
  if r_6 = r_2 then
    if r_2 = (0 : Int32) then
      zix (0 : Int32) (zlen 603) <|
      if (lg_cmp ((v_5 603 (0 : Int32).toNatClampNeg).toInt64) ((r_4).toInt64)) = (0 : Int32) then
        some v_5
      else
        none
    else
      some v_5
  else
    none
set_option maxRecDepth 8000 in
set_option maxHeartbeats 1000000 in
theorem jLc_45 {x : zCx} {G : zG} {fr lo b L : Nat} {xs : Nat → Int32} {Q : State → Prop} (F : zF x G cL_law_ 7 RL fr lo) (hfr : 400 ≤ fr ∧ 20000 ≤ lo) (hfl : x.2.1.stackTraces = false) (hX : va_X b L xs x.2.2.2.2.1 x.2.2.2.2.1.heap) (hbl : b < x.2.2.2.2.1.heap.size) (hbA : ¬ zA G b) (t0 : zty G 0 1 9) (t1 : zty G 116 1 10) (t3 : zty G 603 2 2) {j : Nat} (hj : j + 7 ≤ L) (hL : L < 2 ^ 31) {cs sl : Nat} (hcs : cs + 5 ≤ x.2.2.2.1.cells ∧ sl + 30 ≤ x.2.2.2.1.slots) (v w : zV) (h : fLc_45 (xs (j + 1)) v = some w) (kk : zJ x G 7 Q (cs + 5) (sl + 30) 2917 [(0, .ref b), (1, zr G 0), (2, zr G 116), (3, zr G 603), (4, .int (nI j))] [] w) : zJ x G 7 Q cs sl 2575 [(0, .ref b), (1, zr G 0), (2, zr G 116), (3, zr G 603), (4, .int (nI j))] [] v := by
  obtain ⟨hfr1, hfr2⟩ := hfr
  obtain ⟨hcs1, hcs2⟩ := hcs
  unfold fLc_45 at h
  refine z_aload_n F dL_law__2575 rfl 1 rfl ?_
  refine z_aload_n F dL_law__2576 rfl 0 rfl ?_
  refine z_iload F dL_law__2577 4 rfl ?_
  refine z_iconst (y := (1 : Int32)) F dL_law__2579 rfl ?_
  refine z_iadd F dL_law__2580 ?_
  refine z_sld F hX hbl hbA (nI_add j 1) (by omega) hL dL_law__2581 ?_
  refine z_aload_n F dL_law__2582 rfl 3 rfl ?_
  obtain ⟨r_2, v_1, hq2583, h⟩ := zbind_ex h
  refine z_callSW (n := 3) F [zr G 0, .int (xs (j + 1)), zr G 603] [] (kL_heir x.2.1 G 0 t0 (xs (j + 1)) 603 t3 v r_2 v_1 hfl hq2583) kw_L_heir wM_L_290 ms_L_heir dL_law__2583 rfl (by decide +kernel) ⟨by omega, by omega⟩ rfl (Nat.le_of_ble_eq_true rfl) ⟨by omega, by omega⟩ ?_
  refine z_istore (n := 0) F [(5, .int r_2), (0, .ref b), (1, zr G 0), (2, zr G 116), (3, zr G 603), (4, .int (nI j))] dL_law__2586 (Nat.le_of_ble_eq_true rfl) rfl ?_
  refine z_aload_n F dL_law__2588 rfl 3 rfl ?_
  refine z_aload_n F dL_law__2589 rfl 1 rfl ?_
  refine z_iload F dL_law__2590 5 rfl ?_
  refine z_iconst (y := (1 : Int32)) F dL_law__2592 rfl ?_
  refine z_iadd F dL_law__2593 ?_
  refine z_sld F hX hbl hbA (nI_add j 1) (by omega) hL dL_law__2594 ?_
  obtain ⟨r_4, v_3, hq2595, h⟩ := zbind_ex h
  refine z_callVi F [.int (xs (j + 1))] [] (kX10_heir x.2.1 G 116 t1 (xs (j + 1)) v_1 r_4 v_3 hq2595) mI_X10_heir (c := 10) rfl t1 wM_L_292 mi_X10_heir sl_X10_heir dL_law__2595 rfl ⟨by omega, by omega⟩ rfl (Nat.le_of_ble_eq_true rfl) ⟨by omega, by omega⟩ ?_
  refine z_istore (n := 0) F [(6, .int r_4), (5, .int r_2), (0, .ref b), (1, zr G 0), (2, zr G 116), (3, zr G 603), (4, .int (nI j))] dL_law__2598 (Nat.le_of_ble_eq_true rfl) rfl ?_
  refine z_aload_n F dL_law__2600 rfl 4 rfl ?_
  obtain ⟨r_6, v_5, hq2601, h⟩ := zbind_ex h
  refine z_callVi F [] [] (kX10_thrown x.2.1 G 116 t1 v_3 r_6 v_5 hq2601) mI_X10_thrown (c := 10) rfl t1 wM_L_144 mi_X10_thrown sl_X10_thrown dL_law__2601 rfl ⟨by omega, by omega⟩ rfl (Nat.le_of_ble_eq_true rfl) ⟨by omega, by omega⟩ ?_
  refine z_iload F dL_law__2604 1 rfl ?_
  refine z_icmp_eq F 2611 dL_law__2606 rfl (fun hc => ?_) (fun hc => ?_)
  · replace h := zif_t hc h
    refine z_iload F dL_law__2611 1 rfl ?_
    refine z_if_ne F 2628 dL_law__2613 rfl (fun hc => ?_) (fun hc => ?_)
    · replace h := zif_f hc h
      refine z_goto F 2917 dL_law__2628 rfl ?_
      cases h
      refine z_ls [(0, .ref b), (1, zr G 0), (2, zr G 116), (3, zr G 603), (4, .int (nI j))] [2, 3, 4, 5, 6] rfl ?_
      exact z_wide (cs' := cs + 5) (sl' := sl + 30) (by omega) (by omega) kk
    · replace h := zif_t hc h
      refine z_aload_n F dL_law__2616 rfl 5 rfl ?_
      refine z_iconst (y := (0 : Int32)) F dL_law__2617 rfl ?_
      obtain ⟨hi2618, h⟩ := zix_ex h
      refine z_lald F t3 dL_law__2618 hi2618 ?_
      refine z_iload F dL_law__2619 0 rfl ?_
      refine z_i2l F dL_law__2621 ?_
      refine z_lcmp F dL_law__2622 ?_
      refine z_if_eq F 2628 dL_law__2623 rfl (fun hc => ?_) (fun hc => ?_)
      · replace h := zif_t hc h
        refine z_goto F 2917 dL_law__2628 rfl ?_
        cases h
        refine z_ls [(0, .ref b), (1, zr G 0), (2, zr G 116), (3, zr G 603), (4, .int (nI j))] [2, 3, 4, 5, 6] rfl ?_
        exact z_wide (cs' := cs + 5) (sl' := sl + 30) (by omega) (by omega) kk
      · replace h := zif_f hc h
        exact absurd h (by intro q; cases q)
  · replace h := zif_f hc h
    exact absurd h (by intro q; cases q)

theorem dL_law__2631 : decode cL_law_ 2631 = .ok (.aload_n 1, 1) := by decide +kernel
theorem dL_law__2632 : decode cL_law_ 2632 = .ok (.aload_n 0, 1) := by decide +kernel
theorem dL_law__2633 : decode cL_law_ 2633 = .ok (.iload 4, 2) := by decide +kernel
theorem dL_law__2635 : decode cL_law_ 2635 = .ok (.iconst 1, 1) := by decide +kernel
theorem dL_law__2636 : decode cL_law_ 2636 = .ok (.iadd, 1) := by decide +kernel
theorem dL_law__2637 : decode cL_law_ 2637 = .ok (.iaload, 1) := by decide +kernel
theorem dL_law__2638 : decode cL_law_ 2638 = .ok (.aload_n 0, 1) := by decide +kernel
theorem dL_law__2639 : decode cL_law_ 2639 = .ok (.iload 4, 2) := by decide +kernel
theorem dL_law__2641 : decode cL_law_ 2641 = .ok (.iconst 2, 1) := by decide +kernel
theorem dL_law__2642 : decode cL_law_ 2642 = .ok (.iadd, 1) := by decide +kernel
theorem dL_law__2643 : decode cL_law_ 2643 = .ok (.iaload, 1) := by decide +kernel
theorem dL_law__2644 : decode cL_law_ 2644 = .ok (.aload_n 0, 1) := by decide +kernel
theorem dL_law__2645 : decode cL_law_ 2645 = .ok (.iload 4, 2) := by decide +kernel
theorem dL_law__2647 : decode cL_law_ 2647 = .ok (.iconst 3, 1) := by decide +kernel
theorem dL_law__2648 : decode cL_law_ 2648 = .ok (.iadd, 1) := by decide +kernel
theorem dL_law__2649 : decode cL_law_ 2649 = .ok (.iaload, 1) := by decide +kernel
theorem dL_law__2650 : decode cL_law_ 2650 = .ok (.aload_n 0, 1) := by decide +kernel
theorem dL_law__2651 : decode cL_law_ 2651 = .ok (.iload 4, 2) := by decide +kernel
theorem dL_law__2653 : decode cL_law_ 2653 = .ok (.iconst 4, 1) := by decide +kernel
theorem dL_law__2654 : decode cL_law_ 2654 = .ok (.iadd, 1) := by decide +kernel
theorem dL_law__2655 : decode cL_law_ 2655 = .ok (.iaload, 1) := by decide +kernel
theorem dL_law__2656 : decode cL_law_ 2656 = .ok (.aload_n 3, 1) := by decide +kernel
theorem dL_law__2657 : decode cL_law_ 2657 = .ok (.invokestatic 293, 3) := by decide +kernel
theorem dL_law__2660 : decode cL_law_ 2660 = .ok (.istore 5, 2) := by decide +kernel
theorem dL_law__2662 : decode cL_law_ 2662 = .ok (.aload_n 2, 1) := by decide +kernel
theorem dL_law__2663 : decode cL_law_ 2663 = .ok (.aload_n 0, 1) := by decide +kernel
theorem dL_law__2664 : decode cL_law_ 2664 = .ok (.iload 4, 2) := by decide +kernel
theorem dL_law__2666 : decode cL_law_ 2666 = .ok (.iconst 1, 1) := by decide +kernel
theorem dL_law__2667 : decode cL_law_ 2667 = .ok (.iadd, 1) := by decide +kernel
theorem dL_law__2668 : decode cL_law_ 2668 = .ok (.iaload, 1) := by decide +kernel
theorem dL_law__2669 : decode cL_law_ 2669 = .ok (.aload_n 0, 1) := by decide +kernel
theorem dL_law__2670 : decode cL_law_ 2670 = .ok (.iload 4, 2) := by decide +kernel
theorem dL_law__2672 : decode cL_law_ 2672 = .ok (.iconst 2, 1) := by decide +kernel
theorem dL_law__2673 : decode cL_law_ 2673 = .ok (.iadd, 1) := by decide +kernel
theorem dL_law__2674 : decode cL_law_ 2674 = .ok (.iaload, 1) := by decide +kernel
theorem dL_law__2675 : decode cL_law_ 2675 = .ok (.aload_n 0, 1) := by decide +kernel
theorem dL_law__2676 : decode cL_law_ 2676 = .ok (.iload 4, 2) := by decide +kernel
theorem dL_law__2678 : decode cL_law_ 2678 = .ok (.iconst 3, 1) := by decide +kernel
theorem dL_law__2679 : decode cL_law_ 2679 = .ok (.iadd, 1) := by decide +kernel
theorem dL_law__2680 : decode cL_law_ 2680 = .ok (.iaload, 1) := by decide +kernel
theorem dL_law__2681 : decode cL_law_ 2681 = .ok (.aload_n 0, 1) := by decide +kernel
theorem dL_law__2682 : decode cL_law_ 2682 = .ok (.iload 4, 2) := by decide +kernel
theorem dL_law__2684 : decode cL_law_ 2684 = .ok (.iconst 4, 1) := by decide +kernel
theorem dL_law__2685 : decode cL_law_ 2685 = .ok (.iadd, 1) := by decide +kernel
theorem dL_law__2686 : decode cL_law_ 2686 = .ok (.iaload, 1) := by decide +kernel
theorem dL_law__2687 : decode cL_law_ 2687 = .ok (.invokevirtual 295, 3) := by decide +kernel
theorem dL_law__2690 : decode cL_law_ 2690 = .ok (.istore 6, 2) := by decide +kernel
theorem dL_law__2692 : decode cL_law_ 2692 = .ok (.aload_n 2, 1) := by decide +kernel
theorem dL_law__2693 : decode cL_law_ 2693 = .ok (.invokevirtual 144, 3) := by decide +kernel
theorem dL_law__2696 : decode cL_law_ 2696 = .ok (.iload 5, 2) := by decide +kernel
theorem dL_law__2698 : decode cL_law_ 2698 = .ok (.if_icmp .eq 5, 3) := by decide +kernel
theorem dL_law__2701 : decode cL_law_ 2701 = .ok (.iconst 0, 1) := by decide +kernel
theorem dL_law__2702 : decode cL_law_ 2702 = .ok (.ireturn, 1) := by decide +kernel
theorem dL_law__2703 : decode cL_law_ 2703 = .ok (.iload 5, 2) := by decide +kernel
theorem dL_law__2705 : decode cL_law_ 2705 = .ok (.ifCond .ne 15, 3) := by decide +kernel
theorem dL_law__2708 : decode cL_law_ 2708 = .ok (.aload_n 3, 1) := by decide +kernel
theorem dL_law__2709 : decode cL_law_ 2709 = .ok (.iconst 0, 1) := by decide +kernel
theorem dL_law__2710 : decode cL_law_ 2710 = .ok (.laload, 1) := by decide +kernel
theorem dL_law__2711 : decode cL_law_ 2711 = .ok (.iload 6, 2) := by decide +kernel
theorem dL_law__2713 : decode cL_law_ 2713 = .ok (.i2l, 1) := by decide +kernel
theorem dL_law__2714 : decode cL_law_ 2714 = .ok (.lcmp, 1) := by decide +kernel
theorem dL_law__2715 : decode cL_law_ 2715 = .ok (.ifCond .eq 5, 3) := by decide +kernel
theorem dL_law__2718 : decode cL_law_ 2718 = .ok (.iconst 0, 1) := by decide +kernel
theorem dL_law__2719 : decode cL_law_ 2719 = .ok (.ireturn, 1) := by decide +kernel
theorem dL_law__2720 : decode cL_law_ 2720 = .ok (.goto 197, 3) := by decide +kernel
def fLc_46 (p1 : Int32) (p2 : Int32) (p3 : Int32) (p4 : Int32) (v : zV) : Option zV :=
  zbind (fL_fates 0 p1 p2 p3 p4 603 v) fun r_2 v_1 =>
  zbind (fX10_fates 116 p1 p2 p3 p4 v_1) fun r_4 v_3 =>
  zbind (fX10_thrown 116 v_3) fun r_6 v_5 =>
  if r_6 = r_2 then
    if r_2 = (0 : Int32) then
      zix (0 : Int32) (zlen 603) <|
      if (lg_cmp ((v_5 603 (0 : Int32).toNatClampNeg).toInt64) ((r_4).toInt64)) = (0 : Int32) then
        some v_5
      else
        none
    else
      some v_5
  else
    none
set_option maxRecDepth 8000 in
set_option maxHeartbeats 1000000 in
theorem jLc_46 {x : zCx} {G : zG} {fr lo b L : Nat} {xs : Nat → Int32} {Q : State → Prop} (F : zF x G cL_law_ 7 RL fr lo) (hfr : 400 ≤ fr ∧ 20000 ≤ lo) (hfl : x.2.1.stackTraces = false) (hX : va_X b L xs x.2.2.2.2.1 x.2.2.2.2.1.heap) (hbl : b < x.2.2.2.2.1.heap.size) (hbA : ¬ zA G b) (t0 : zty G 0 1 9) (t1 : zty G 116 1 10) (t3 : zty G 603 2 2) {j : Nat} (hj : j + 7 ≤ L) (hL : L < 2 ^ 31) {cs sl : Nat} (hcs : cs + 5 ≤ x.2.2.2.1.cells ∧ sl + 30 ≤ x.2.2.2.1.slots) (v w : zV) (h : fLc_46 (xs (j + 1)) (xs (j + 2)) (xs (j + 3)) (xs (j + 4)) v = some w) (kk : zJ x G 7 Q (cs + 5) (sl + 30) 2917 [(0, .ref b), (1, zr G 0), (2, zr G 116), (3, zr G 603), (4, .int (nI j))] [] w) : zJ x G 7 Q cs sl 2631 [(0, .ref b), (1, zr G 0), (2, zr G 116), (3, zr G 603), (4, .int (nI j))] [] v := by
  obtain ⟨hfr1, hfr2⟩ := hfr
  obtain ⟨hcs1, hcs2⟩ := hcs
  unfold fLc_46 at h
  refine z_aload_n F dL_law__2631 rfl 1 rfl ?_
  refine z_aload_n F dL_law__2632 rfl 0 rfl ?_
  refine z_iload F dL_law__2633 4 rfl ?_
  refine z_iconst (y := (1 : Int32)) F dL_law__2635 rfl ?_
  refine z_iadd F dL_law__2636 ?_
  refine z_sld F hX hbl hbA (nI_add j 1) (by omega) hL dL_law__2637 ?_
  refine z_aload_n F dL_law__2638 rfl 0 rfl ?_
  refine z_iload F dL_law__2639 4 rfl ?_
  refine z_iconst (y := (2 : Int32)) F dL_law__2641 rfl ?_
  refine z_iadd F dL_law__2642 ?_
  refine z_sld F hX hbl hbA (nI_add j 2) (by omega) hL dL_law__2643 ?_
  refine z_aload_n F dL_law__2644 rfl 0 rfl ?_
  refine z_iload F dL_law__2645 4 rfl ?_
  refine z_iconst (y := (3 : Int32)) F dL_law__2647 rfl ?_
  refine z_iadd F dL_law__2648 ?_
  refine z_sld F hX hbl hbA (nI_add j 3) (by omega) hL dL_law__2649 ?_
  refine z_aload_n F dL_law__2650 rfl 0 rfl ?_
  refine z_iload F dL_law__2651 4 rfl ?_
  refine z_iconst (y := (4 : Int32)) F dL_law__2653 rfl ?_
  refine z_iadd F dL_law__2654 ?_
  refine z_sld F hX hbl hbA (nI_add j 4) (by omega) hL dL_law__2655 ?_
  refine z_aload_n F dL_law__2656 rfl 3 rfl ?_
  obtain ⟨r_2, v_1, hq2657, h⟩ := zbind_ex h
  refine z_callSW (n := 6) F [zr G 0, .int (xs (j + 1)), .int (xs (j + 2)), .int (xs (j + 3)), .int (xs (j + 4)), zr G 603] [] (kL_fates x.2.1 G 0 t0 (xs (j + 1)) (xs (j + 2)) (xs (j + 3)) (xs (j + 4)) 603 t3 v r_2 v_1 hfl hq2657) kw_L_fates wM_L_293 ms_L_fates dL_law__2657 rfl (by decide +kernel) ⟨by omega, by omega⟩ rfl (Nat.le_of_ble_eq_true rfl) ⟨by omega, by omega⟩ ?_
  refine z_istore (n := 0) F [(5, .int r_2), (0, .ref b), (1, zr G 0), (2, zr G 116), (3, zr G 603), (4, .int (nI j))] dL_law__2660 (Nat.le_of_ble_eq_true rfl) rfl ?_
  refine z_aload_n F dL_law__2662 rfl 3 rfl ?_
  refine z_aload_n F dL_law__2663 rfl 1 rfl ?_
  refine z_iload F dL_law__2664 5 rfl ?_
  refine z_iconst (y := (1 : Int32)) F dL_law__2666 rfl ?_
  refine z_iadd F dL_law__2667 ?_
  refine z_sld F hX hbl hbA (nI_add j 1) (by omega) hL dL_law__2668 ?_
  refine z_aload_n F dL_law__2669 rfl 1 rfl ?_
  refine z_iload F dL_law__2670 5 rfl ?_
  refine z_iconst (y := (2 : Int32)) F dL_law__2672 rfl ?_
  refine z_iadd F dL_law__2673 ?_
  refine z_sld F hX hbl hbA (nI_add j 2) (by omega) hL dL_law__2674 ?_
  refine z_aload_n F dL_law__2675 rfl 1 rfl ?_
  refine z_iload F dL_law__2676 5 rfl ?_
  refine z_iconst (y := (3 : Int32)) F dL_law__2678 rfl ?_
  refine z_iadd F dL_law__2679 ?_
  refine z_sld F hX hbl hbA (nI_add j 3) (by omega) hL dL_law__2680 ?_
  refine z_aload_n F dL_law__2681 rfl 1 rfl ?_
  refine z_iload F dL_law__2682 5 rfl ?_
  refine z_iconst (y := (4 : Int32)) F dL_law__2684 rfl ?_
  refine z_iadd F dL_law__2685 ?_
  refine z_sld F hX hbl hbA (nI_add j 4) (by omega) hL dL_law__2686 ?_
  obtain ⟨r_4, v_3, hq2687, h⟩ := zbind_ex h
  refine z_callVi F [.int (xs (j + 1)), .int (xs (j + 2)), .int (xs (j + 3)), .int (xs (j + 4))] [] (kX10_fates x.2.1 G 116 t1 (xs (j + 1)) (xs (j + 2)) (xs (j + 3)) (xs (j + 4)) v_1 r_4 v_3 hq2687) mI_X10_fates (c := 10) rfl t1 wM_L_295 mi_X10_fates sl_X10_fates dL_law__2687 rfl ⟨by omega, by omega⟩ rfl (Nat.le_of_ble_eq_true rfl) ⟨by omega, by omega⟩ ?_
  refine z_istore (n := 0) F [(6, .int r_4), (5, .int r_2), (0, .ref b), (1, zr G 0), (2, zr G 116), (3, zr G 603), (4, .int (nI j))] dL_law__2690 (Nat.le_of_ble_eq_true rfl) rfl ?_
  refine z_aload_n F dL_law__2692 rfl 4 rfl ?_
  obtain ⟨r_6, v_5, hq2693, h⟩ := zbind_ex h
  refine z_callVi F [] [] (kX10_thrown x.2.1 G 116 t1 v_3 r_6 v_5 hq2693) mI_X10_thrown (c := 10) rfl t1 wM_L_144 mi_X10_thrown sl_X10_thrown dL_law__2693 rfl ⟨by omega, by omega⟩ rfl (Nat.le_of_ble_eq_true rfl) ⟨by omega, by omega⟩ ?_
  refine z_iload F dL_law__2696 1 rfl ?_
  refine z_icmp_eq F 2703 dL_law__2698 rfl (fun hc => ?_) (fun hc => ?_)
  · replace h := zif_t hc h
    refine z_iload F dL_law__2703 1 rfl ?_
    refine z_if_ne F 2720 dL_law__2705 rfl (fun hc => ?_) (fun hc => ?_)
    · replace h := zif_f hc h
      refine z_goto F 2917 dL_law__2720 rfl ?_
      cases h
      refine z_ls [(0, .ref b), (1, zr G 0), (2, zr G 116), (3, zr G 603), (4, .int (nI j))] [2, 3, 4, 5, 6] rfl ?_
      exact z_wide (cs' := cs + 5) (sl' := sl + 30) (by omega) (by omega) kk
    · replace h := zif_t hc h
      refine z_aload_n F dL_law__2708 rfl 5 rfl ?_
      refine z_iconst (y := (0 : Int32)) F dL_law__2709 rfl ?_
      obtain ⟨hi2710, h⟩ := zix_ex h
      refine z_lald F t3 dL_law__2710 hi2710 ?_
      refine z_iload F dL_law__2711 0 rfl ?_
      refine z_i2l F dL_law__2713 ?_
      refine z_lcmp F dL_law__2714 ?_
      refine z_if_eq F 2720 dL_law__2715 rfl (fun hc => ?_) (fun hc => ?_)
      · replace h := zif_t hc h
        refine z_goto F 2917 dL_law__2720 rfl ?_
        cases h
        refine z_ls [(0, .ref b), (1, zr G 0), (2, zr G 116), (3, zr G 603), (4, .int (nI j))] [2, 3, 4, 5, 6] rfl ?_
        exact z_wide (cs' := cs + 5) (sl' := sl + 30) (by omega) (by omega) kk
      · replace h := zif_f hc h
        exact absurd h (by intro q; cases q)
  · replace h := zif_f hc h
    exact absurd h (by intro q; cases q)

theorem dL_law__2723 : decode cL_law_ 2723 = .ok (.aload_n 1, 1) := by decide +kernel
theorem dL_law__2724 : decode cL_law_ 2724 = .ok (.aload_n 0, 1) := by decide +kernel
theorem dL_law__2725 : decode cL_law_ 2725 = .ok (.iload 4, 2) := by decide +kernel
theorem dL_law__2727 : decode cL_law_ 2727 = .ok (.iconst 1, 1) := by decide +kernel
theorem dL_law__2728 : decode cL_law_ 2728 = .ok (.iadd, 1) := by decide +kernel
theorem dL_law__2729 : decode cL_law_ 2729 = .ok (.iaload, 1) := by decide +kernel
theorem dL_law__2730 : decode cL_law_ 2730 = .ok (.aload_n 0, 1) := by decide +kernel
theorem dL_law__2731 : decode cL_law_ 2731 = .ok (.iload 4, 2) := by decide +kernel
theorem dL_law__2733 : decode cL_law_ 2733 = .ok (.iconst 2, 1) := by decide +kernel
theorem dL_law__2734 : decode cL_law_ 2734 = .ok (.iadd, 1) := by decide +kernel
theorem dL_law__2735 : decode cL_law_ 2735 = .ok (.iaload, 1) := by decide +kernel
theorem dL_law__2736 : decode cL_law_ 2736 = .ok (.aload_n 0, 1) := by decide +kernel
theorem dL_law__2737 : decode cL_law_ 2737 = .ok (.iload 4, 2) := by decide +kernel
theorem dL_law__2739 : decode cL_law_ 2739 = .ok (.iconst 3, 1) := by decide +kernel
theorem dL_law__2740 : decode cL_law_ 2740 = .ok (.iadd, 1) := by decide +kernel
theorem dL_law__2741 : decode cL_law_ 2741 = .ok (.iaload, 1) := by decide +kernel
theorem dL_law__2742 : decode cL_law_ 2742 = .ok (.aload_n 0, 1) := by decide +kernel
theorem dL_law__2743 : decode cL_law_ 2743 = .ok (.iload 4, 2) := by decide +kernel
theorem dL_law__2745 : decode cL_law_ 2745 = .ok (.iconst 4, 1) := by decide +kernel
theorem dL_law__2746 : decode cL_law_ 2746 = .ok (.iadd, 1) := by decide +kernel
theorem dL_law__2747 : decode cL_law_ 2747 = .ok (.iaload, 1) := by decide +kernel
theorem dL_law__2748 : decode cL_law_ 2748 = .ok (.aload_n 0, 1) := by decide +kernel
theorem dL_law__2749 : decode cL_law_ 2749 = .ok (.iload 4, 2) := by decide +kernel
theorem dL_law__2751 : decode cL_law_ 2751 = .ok (.iconst 5, 1) := by decide +kernel
theorem dL_law__2752 : decode cL_law_ 2752 = .ok (.iadd, 1) := by decide +kernel
theorem dL_law__2753 : decode cL_law_ 2753 = .ok (.iaload, 1) := by decide +kernel
theorem dL_law__2754 : decode cL_law_ 2754 = .ok (.aload_n 0, 1) := by decide +kernel
theorem dL_law__2755 : decode cL_law_ 2755 = .ok (.iload 4, 2) := by decide +kernel
theorem dL_law__2757 : decode cL_law_ 2757 = .ok (.bipush 6, 2) := by decide +kernel
theorem dL_law__2759 : decode cL_law_ 2759 = .ok (.iadd, 1) := by decide +kernel
theorem dL_law__2760 : decode cL_law_ 2760 = .ok (.iaload, 1) := by decide +kernel
theorem dL_law__2761 : decode cL_law_ 2761 = .ok (.aload_n 3, 1) := by decide +kernel
theorem dL_law__2762 : decode cL_law_ 2762 = .ok (.invokestatic 296, 3) := by decide +kernel
theorem dL_law__2765 : decode cL_law_ 2765 = .ok (.istore 5, 2) := by decide +kernel
theorem dL_law__2767 : decode cL_law_ 2767 = .ok (.aload_n 2, 1) := by decide +kernel
theorem dL_law__2768 : decode cL_law_ 2768 = .ok (.aload_n 0, 1) := by decide +kernel
theorem dL_law__2769 : decode cL_law_ 2769 = .ok (.iload 4, 2) := by decide +kernel
theorem dL_law__2771 : decode cL_law_ 2771 = .ok (.iconst 1, 1) := by decide +kernel
theorem dL_law__2772 : decode cL_law_ 2772 = .ok (.iadd, 1) := by decide +kernel
theorem dL_law__2773 : decode cL_law_ 2773 = .ok (.iaload, 1) := by decide +kernel
theorem dL_law__2774 : decode cL_law_ 2774 = .ok (.aload_n 0, 1) := by decide +kernel
theorem dL_law__2775 : decode cL_law_ 2775 = .ok (.iload 4, 2) := by decide +kernel
theorem dL_law__2777 : decode cL_law_ 2777 = .ok (.iconst 2, 1) := by decide +kernel
theorem dL_law__2778 : decode cL_law_ 2778 = .ok (.iadd, 1) := by decide +kernel
theorem dL_law__2779 : decode cL_law_ 2779 = .ok (.iaload, 1) := by decide +kernel
theorem dL_law__2780 : decode cL_law_ 2780 = .ok (.aload_n 0, 1) := by decide +kernel
theorem dL_law__2781 : decode cL_law_ 2781 = .ok (.iload 4, 2) := by decide +kernel
theorem dL_law__2783 : decode cL_law_ 2783 = .ok (.iconst 3, 1) := by decide +kernel
theorem dL_law__2784 : decode cL_law_ 2784 = .ok (.iadd, 1) := by decide +kernel
theorem dL_law__2785 : decode cL_law_ 2785 = .ok (.iaload, 1) := by decide +kernel
theorem dL_law__2786 : decode cL_law_ 2786 = .ok (.aload_n 0, 1) := by decide +kernel
theorem dL_law__2787 : decode cL_law_ 2787 = .ok (.iload 4, 2) := by decide +kernel
theorem dL_law__2789 : decode cL_law_ 2789 = .ok (.iconst 4, 1) := by decide +kernel
theorem dL_law__2790 : decode cL_law_ 2790 = .ok (.iadd, 1) := by decide +kernel
theorem dL_law__2791 : decode cL_law_ 2791 = .ok (.iaload, 1) := by decide +kernel
theorem dL_law__2792 : decode cL_law_ 2792 = .ok (.aload_n 0, 1) := by decide +kernel
theorem dL_law__2793 : decode cL_law_ 2793 = .ok (.iload 4, 2) := by decide +kernel
theorem dL_law__2795 : decode cL_law_ 2795 = .ok (.iconst 5, 1) := by decide +kernel
theorem dL_law__2796 : decode cL_law_ 2796 = .ok (.iadd, 1) := by decide +kernel
theorem dL_law__2797 : decode cL_law_ 2797 = .ok (.iaload, 1) := by decide +kernel
theorem dL_law__2798 : decode cL_law_ 2798 = .ok (.aload_n 0, 1) := by decide +kernel
theorem dL_law__2799 : decode cL_law_ 2799 = .ok (.iload 4, 2) := by decide +kernel
theorem dL_law__2801 : decode cL_law_ 2801 = .ok (.bipush 6, 2) := by decide +kernel
theorem dL_law__2803 : decode cL_law_ 2803 = .ok (.iadd, 1) := by decide +kernel
theorem dL_law__2804 : decode cL_law_ 2804 = .ok (.iaload, 1) := by decide +kernel
theorem dL_law__2805 : decode cL_law_ 2805 = .ok (.invokevirtual 299, 3) := by decide +kernel
theorem dL_law__2808 : decode cL_law_ 2808 = .ok (.istore 6, 2) := by decide +kernel
theorem dL_law__2810 : decode cL_law_ 2810 = .ok (.aload_n 2, 1) := by decide +kernel
theorem dL_law__2811 : decode cL_law_ 2811 = .ok (.invokevirtual 144, 3) := by decide +kernel
theorem dL_law__2814 : decode cL_law_ 2814 = .ok (.iload 5, 2) := by decide +kernel
theorem dL_law__2816 : decode cL_law_ 2816 = .ok (.if_icmp .eq 5, 3) := by decide +kernel
theorem dL_law__2819 : decode cL_law_ 2819 = .ok (.iconst 0, 1) := by decide +kernel
theorem dL_law__2820 : decode cL_law_ 2820 = .ok (.ireturn, 1) := by decide +kernel
theorem dL_law__2821 : decode cL_law_ 2821 = .ok (.iload 5, 2) := by decide +kernel
theorem dL_law__2823 : decode cL_law_ 2823 = .ok (.ifCond .ne 15, 3) := by decide +kernel
theorem dL_law__2826 : decode cL_law_ 2826 = .ok (.aload_n 3, 1) := by decide +kernel
theorem dL_law__2827 : decode cL_law_ 2827 = .ok (.iconst 0, 1) := by decide +kernel
theorem dL_law__2828 : decode cL_law_ 2828 = .ok (.laload, 1) := by decide +kernel
theorem dL_law__2829 : decode cL_law_ 2829 = .ok (.iload 6, 2) := by decide +kernel
theorem dL_law__2831 : decode cL_law_ 2831 = .ok (.i2l, 1) := by decide +kernel
theorem dL_law__2832 : decode cL_law_ 2832 = .ok (.lcmp, 1) := by decide +kernel
theorem dL_law__2833 : decode cL_law_ 2833 = .ok (.ifCond .eq 5, 3) := by decide +kernel
theorem dL_law__2836 : decode cL_law_ 2836 = .ok (.iconst 0, 1) := by decide +kernel
theorem dL_law__2837 : decode cL_law_ 2837 = .ok (.ireturn, 1) := by decide +kernel
theorem dL_law__2838 : decode cL_law_ 2838 = .ok (.goto 79, 3) := by decide +kernel
def fLc_47 (p1 : Int32) (p2 : Int32) (p3 : Int32) (p4 : Int32) (p5 : Int32) (p6 : Int32) (v : zV) : Option zV :=
  zbind (fL_span 0 p1 p2 p3 p4 p5 p6 603 v) fun r_2 v_1 =>
  zbind (fX10_span 116 p1 p2 p3 p4 p5 p6 v_1) fun r_4 v_3 =>
  zbind (fX10_thrown 116 v_3) fun r_6 v_5 =>
  if r_6 = r_2 then
    if r_2 = (0 : Int32) then
      zix (0 : Int32) (zlen 603) <|
      if (lg_cmp ((v_5 603 (0 : Int32).toNatClampNeg).toInt64) ((r_4).toInt64)) = (0 : Int32) then
        some v_5
      else
        none
    else
      some v_5
  else
    none
set_option maxRecDepth 8000 in
set_option maxHeartbeats 1000000 in
theorem jLc_47 {x : zCx} {G : zG} {fr lo b L : Nat} {xs : Nat → Int32} {Q : State → Prop} (F : zF x G cL_law_ 7 RL fr lo) (hfr : 400 ≤ fr ∧ 20000 ≤ lo) (hfl : x.2.1.stackTraces = false) (hX : va_X b L xs x.2.2.2.2.1 x.2.2.2.2.1.heap) (hbl : b < x.2.2.2.2.1.heap.size) (hbA : ¬ zA G b) (t0 : zty G 0 1 9) (t1 : zty G 116 1 10) (t3 : zty G 603 2 2) {j : Nat} (hj : j + 7 ≤ L) (hL : L < 2 ^ 31) {cs sl : Nat} (hcs : cs + 5 ≤ x.2.2.2.1.cells ∧ sl + 30 ≤ x.2.2.2.1.slots) (v w : zV) (h : fLc_47 (xs (j + 1)) (xs (j + 2)) (xs (j + 3)) (xs (j + 4)) (xs (j + 5)) (xs (j + 6)) v = some w) (kk : zJ x G 7 Q (cs + 5) (sl + 30) 2917 [(0, .ref b), (1, zr G 0), (2, zr G 116), (3, zr G 603), (4, .int (nI j))] [] w) : zJ x G 7 Q cs sl 2723 [(0, .ref b), (1, zr G 0), (2, zr G 116), (3, zr G 603), (4, .int (nI j))] [] v := by
  obtain ⟨hfr1, hfr2⟩ := hfr
  obtain ⟨hcs1, hcs2⟩ := hcs
  unfold fLc_47 at h
  refine z_aload_n F dL_law__2723 rfl 1 rfl ?_
  refine z_aload_n F dL_law__2724 rfl 0 rfl ?_
  refine z_iload F dL_law__2725 4 rfl ?_
  refine z_iconst (y := (1 : Int32)) F dL_law__2727 rfl ?_
  refine z_iadd F dL_law__2728 ?_
  refine z_sld F hX hbl hbA (nI_add j 1) (by omega) hL dL_law__2729 ?_
  refine z_aload_n F dL_law__2730 rfl 0 rfl ?_
  refine z_iload F dL_law__2731 4 rfl ?_
  refine z_iconst (y := (2 : Int32)) F dL_law__2733 rfl ?_
  refine z_iadd F dL_law__2734 ?_
  refine z_sld F hX hbl hbA (nI_add j 2) (by omega) hL dL_law__2735 ?_
  refine z_aload_n F dL_law__2736 rfl 0 rfl ?_
  refine z_iload F dL_law__2737 4 rfl ?_
  refine z_iconst (y := (3 : Int32)) F dL_law__2739 rfl ?_
  refine z_iadd F dL_law__2740 ?_
  refine z_sld F hX hbl hbA (nI_add j 3) (by omega) hL dL_law__2741 ?_
  refine z_aload_n F dL_law__2742 rfl 0 rfl ?_
  refine z_iload F dL_law__2743 4 rfl ?_
  refine z_iconst (y := (4 : Int32)) F dL_law__2745 rfl ?_
  refine z_iadd F dL_law__2746 ?_
  refine z_sld F hX hbl hbA (nI_add j 4) (by omega) hL dL_law__2747 ?_
  refine z_aload_n F dL_law__2748 rfl 0 rfl ?_
  refine z_iload F dL_law__2749 4 rfl ?_
  refine z_iconst (y := (5 : Int32)) F dL_law__2751 rfl ?_
  refine z_iadd F dL_law__2752 ?_
  refine z_sld F hX hbl hbA (nI_add j 5) (by omega) hL dL_law__2753 ?_
  refine z_aload_n F dL_law__2754 rfl 0 rfl ?_
  refine z_iload F dL_law__2755 4 rfl ?_
  refine z_bipush (y := (6 : Int32)) F dL_law__2757 rfl ?_
  refine z_iadd F dL_law__2759 ?_
  refine z_sld F hX hbl hbA (nI_add j 6) (by omega) hL dL_law__2760 ?_
  refine z_aload_n F dL_law__2761 rfl 3 rfl ?_
  obtain ⟨r_2, v_1, hq2762, h⟩ := zbind_ex h
  refine z_callSW (n := 8) F [zr G 0, .int (xs (j + 1)), .int (xs (j + 2)), .int (xs (j + 3)), .int (xs (j + 4)), .int (xs (j + 5)), .int (xs (j + 6)), zr G 603] [] (kL_span x.2.1 G 0 t0 (xs (j + 1)) (xs (j + 2)) (xs (j + 3)) (xs (j + 4)) (xs (j + 5)) (xs (j + 6)) 603 t3 v r_2 v_1 hfl hq2762) kw_L_span wM_L_296 ms_L_span dL_law__2762 rfl (by decide +kernel) ⟨by omega, by omega⟩ rfl (Nat.le_of_ble_eq_true rfl) ⟨by omega, by omega⟩ ?_
  refine z_istore (n := 0) F [(5, .int r_2), (0, .ref b), (1, zr G 0), (2, zr G 116), (3, zr G 603), (4, .int (nI j))] dL_law__2765 (Nat.le_of_ble_eq_true rfl) rfl ?_
  refine z_aload_n F dL_law__2767 rfl 3 rfl ?_
  refine z_aload_n F dL_law__2768 rfl 1 rfl ?_
  refine z_iload F dL_law__2769 5 rfl ?_
  refine z_iconst (y := (1 : Int32)) F dL_law__2771 rfl ?_
  refine z_iadd F dL_law__2772 ?_
  refine z_sld F hX hbl hbA (nI_add j 1) (by omega) hL dL_law__2773 ?_
  refine z_aload_n F dL_law__2774 rfl 1 rfl ?_
  refine z_iload F dL_law__2775 5 rfl ?_
  refine z_iconst (y := (2 : Int32)) F dL_law__2777 rfl ?_
  refine z_iadd F dL_law__2778 ?_
  refine z_sld F hX hbl hbA (nI_add j 2) (by omega) hL dL_law__2779 ?_
  refine z_aload_n F dL_law__2780 rfl 1 rfl ?_
  refine z_iload F dL_law__2781 5 rfl ?_
  refine z_iconst (y := (3 : Int32)) F dL_law__2783 rfl ?_
  refine z_iadd F dL_law__2784 ?_
  refine z_sld F hX hbl hbA (nI_add j 3) (by omega) hL dL_law__2785 ?_
  refine z_aload_n F dL_law__2786 rfl 1 rfl ?_
  refine z_iload F dL_law__2787 5 rfl ?_
  refine z_iconst (y := (4 : Int32)) F dL_law__2789 rfl ?_
  refine z_iadd F dL_law__2790 ?_
  refine z_sld F hX hbl hbA (nI_add j 4) (by omega) hL dL_law__2791 ?_
  refine z_aload_n F dL_law__2792 rfl 1 rfl ?_
  refine z_iload F dL_law__2793 5 rfl ?_
  refine z_iconst (y := (5 : Int32)) F dL_law__2795 rfl ?_
  refine z_iadd F dL_law__2796 ?_
  refine z_sld F hX hbl hbA (nI_add j 5) (by omega) hL dL_law__2797 ?_
  refine z_aload_n F dL_law__2798 rfl 1 rfl ?_
  refine z_iload F dL_law__2799 5 rfl ?_
  refine z_bipush (y := (6 : Int32)) F dL_law__2801 rfl ?_
  refine z_iadd F dL_law__2803 ?_
  refine z_sld F hX hbl hbA (nI_add j 6) (by omega) hL dL_law__2804 ?_
  obtain ⟨r_4, v_3, hq2805, h⟩ := zbind_ex h
  refine z_callVi F [.int (xs (j + 1)), .int (xs (j + 2)), .int (xs (j + 3)), .int (xs (j + 4)), .int (xs (j + 5)), .int (xs (j + 6))] [] (kX10_span x.2.1 G 116 t1 (xs (j + 1)) (xs (j + 2)) (xs (j + 3)) (xs (j + 4)) (xs (j + 5)) (xs (j + 6)) v_1 r_4 v_3 hq2805) mI_X10_span (c := 10) rfl t1 wM_L_299 mi_X10_span sl_X10_span dL_law__2805 rfl ⟨by omega, by omega⟩ rfl (Nat.le_of_ble_eq_true rfl) ⟨by omega, by omega⟩ ?_
  refine z_istore (n := 0) F [(6, .int r_4), (5, .int r_2), (0, .ref b), (1, zr G 0), (2, zr G 116), (3, zr G 603), (4, .int (nI j))] dL_law__2808 (Nat.le_of_ble_eq_true rfl) rfl ?_
  refine z_aload_n F dL_law__2810 rfl 4 rfl ?_
  obtain ⟨r_6, v_5, hq2811, h⟩ := zbind_ex h
  refine z_callVi F [] [] (kX10_thrown x.2.1 G 116 t1 v_3 r_6 v_5 hq2811) mI_X10_thrown (c := 10) rfl t1 wM_L_144 mi_X10_thrown sl_X10_thrown dL_law__2811 rfl ⟨by omega, by omega⟩ rfl (Nat.le_of_ble_eq_true rfl) ⟨by omega, by omega⟩ ?_
  refine z_iload F dL_law__2814 1 rfl ?_
  refine z_icmp_eq F 2821 dL_law__2816 rfl (fun hc => ?_) (fun hc => ?_)
  · replace h := zif_t hc h
    refine z_iload F dL_law__2821 1 rfl ?_
    refine z_if_ne F 2838 dL_law__2823 rfl (fun hc => ?_) (fun hc => ?_)
    · replace h := zif_f hc h
      refine z_goto F 2917 dL_law__2838 rfl ?_
      cases h
      refine z_ls [(0, .ref b), (1, zr G 0), (2, zr G 116), (3, zr G 603), (4, .int (nI j))] [2, 3, 4, 5, 6] rfl ?_
      exact z_wide (cs' := cs + 5) (sl' := sl + 30) (by omega) (by omega) kk
    · replace h := zif_t hc h
      refine z_aload_n F dL_law__2826 rfl 5 rfl ?_
      refine z_iconst (y := (0 : Int32)) F dL_law__2827 rfl ?_
      obtain ⟨hi2828, h⟩ := zix_ex h
      refine z_lald F t3 dL_law__2828 hi2828 ?_
      refine z_iload F dL_law__2829 0 rfl ?_
      refine z_i2l F dL_law__2831 ?_
      refine z_lcmp F dL_law__2832 ?_
      refine z_if_eq F 2838 dL_law__2833 rfl (fun hc => ?_) (fun hc => ?_)
      · replace h := zif_t hc h
        refine z_goto F 2917 dL_law__2838 rfl ?_
        cases h
        refine z_ls [(0, .ref b), (1, zr G 0), (2, zr G 116), (3, zr G 603), (4, .int (nI j))] [2, 3, 4, 5, 6] rfl ?_
        exact z_wide (cs' := cs + 5) (sl' := sl + 30) (by omega) (by omega) kk
      · replace h := zif_f hc h
        exact absurd h (by intro q; cases q)
  · replace h := zif_f hc h
    exact absurd h (by intro q; cases q)

theorem dL_law__2841 : decode cL_law_ 2841 = .ok (.aload_n 1, 1) := by decide +kernel
theorem dL_law__2842 : decode cL_law_ 2842 = .ok (.invokevirtual 300, 3) := by decide +kernel
theorem dL_law__2845 : decode cL_law_ 2845 = .ok (.aload_n 2, 1) := by decide +kernel
theorem dL_law__2846 : decode cL_law_ 2846 = .ok (.invokevirtual 303, 3) := by decide +kernel
theorem dL_law__2849 : decode cL_law_ 2849 = .ok (.if_icmp .eq 68, 3) := by decide +kernel
theorem dL_law__2852 : decode cL_law_ 2852 = .ok (.iconst 0, 1) := by decide +kernel
theorem dL_law__2853 : decode cL_law_ 2853 = .ok (.ireturn, 1) := by decide +kernel
def fLc_48 (v : zV) : Option zV :=
  zbind (fX9_image 0 v) fun r_2 v_1 =>
  zbind (fX10_image 116 v_1) fun r_4 v_3 =>
  if r_2 = r_4 then
    some v_3
  else
    none
set_option maxRecDepth 8000 in
set_option maxHeartbeats 1000000 in
theorem jLc_48 {x : zCx} {G : zG} {fr lo b L : Nat} {xs : Nat → Int32} {Q : State → Prop} (F : zF x G cL_law_ 7 RL fr lo) (hfr : 400 ≤ fr ∧ 20000 ≤ lo) (hfl : x.2.1.stackTraces = false) (hX : va_X b L xs x.2.2.2.2.1 x.2.2.2.2.1.heap) (hbl : b < x.2.2.2.2.1.heap.size) (hbA : ¬ zA G b) (t0 : zty G 0 1 9) (t1 : zty G 116 1 10) (t3 : zty G 603 2 2) {j : Nat} (hj : j + 7 ≤ L) (hL : L < 2 ^ 31) {cs sl : Nat} (hcs : cs + 5 ≤ x.2.2.2.1.cells ∧ sl + 30 ≤ x.2.2.2.1.slots) (v w : zV) (h : fLc_48 v = some w) (kk : zJ x G 7 Q (cs + 5) (sl + 30) 2917 [(0, .ref b), (1, zr G 0), (2, zr G 116), (3, zr G 603), (4, .int (nI j))] [] w) : zJ x G 7 Q cs sl 2841 [(0, .ref b), (1, zr G 0), (2, zr G 116), (3, zr G 603), (4, .int (nI j))] [] v := by
  obtain ⟨hfr1, hfr2⟩ := hfr
  obtain ⟨hcs1, hcs2⟩ := hcs
  unfold fLc_48 at h
  refine z_aload_n F dL_law__2841 rfl 1 rfl ?_
  obtain ⟨r_2, v_1, hq2842, h⟩ := zbind_ex h
  refine z_callVi F [] [] (kX9_image x.2.1 G 0 t0 v r_2 v_1 hq2842) mI_X9_image (c := 9) rfl t0 wM_L_300 mi_X9_image sl_X9_image dL_law__2842 rfl ⟨by omega, by omega⟩ rfl (Nat.le_of_ble_eq_true rfl) ⟨by omega, by omega⟩ ?_
  refine z_aload_n F dL_law__2845 rfl 2 rfl ?_
  obtain ⟨r_4, v_3, hq2846, h⟩ := zbind_ex h
  refine z_callVi F [] [.int r_2] (kX10_image x.2.1 G 116 t1 v_1 r_4 v_3 hq2846) mI_X10_image (c := 10) rfl t1 wM_L_303 mi_X10_image sl_X10_image dL_law__2846 rfl ⟨by omega, by omega⟩ rfl (Nat.le_of_ble_eq_true rfl) ⟨by omega, by omega⟩ ?_
  refine z_icmp_eq F 2917 dL_law__2849 rfl (fun hc => ?_) (fun hc => ?_)
  · replace h := zif_t hc h
    cases h
    refine z_ls [(0, .ref b), (1, zr G 0), (2, zr G 116), (3, zr G 603), (4, .int (nI j))] [0, 1, 2, 3, 4] rfl ?_
    exact z_wide (cs' := cs + 5) (sl' := sl + 30) (by omega) (by omega) kk
  · replace h := zif_f hc h
    exact absurd h (by intro q; cases q)

theorem dL_law__2854 : decode cL_law_ 2854 = .ok (.aload_n 1, 1) := by decide +kernel
theorem dL_law__2855 : decode cL_law_ 2855 = .ok (.invokevirtual 304, 3) := by decide +kernel
theorem dL_law__2858 : decode cL_law_ 2858 = .ok (.aload_n 2, 1) := by decide +kernel
theorem dL_law__2859 : decode cL_law_ 2859 = .ok (.invokevirtual 307, 3) := by decide +kernel
theorem dL_law__2862 : decode cL_law_ 2862 = .ok (.if_icmp .eq 55, 3) := by decide +kernel
theorem dL_law__2865 : decode cL_law_ 2865 = .ok (.iconst 0, 1) := by decide +kernel
theorem dL_law__2866 : decode cL_law_ 2866 = .ok (.ireturn, 1) := by decide +kernel
def fLc_49 (v : zV) : Option zV :=
  zbind (fX9_restore 0 v) fun r_2 v_1 =>
  zbind (fX10_restore 116 v_1) fun r_4 v_3 =>
  if r_2 = r_4 then
    some v_3
  else
    none
set_option maxRecDepth 8000 in
set_option maxHeartbeats 1000000 in
theorem jLc_49 {x : zCx} {G : zG} {fr lo b L : Nat} {xs : Nat → Int32} {Q : State → Prop} (F : zF x G cL_law_ 7 RL fr lo) (hfr : 400 ≤ fr ∧ 20000 ≤ lo) (hfl : x.2.1.stackTraces = false) (hX : va_X b L xs x.2.2.2.2.1 x.2.2.2.2.1.heap) (hbl : b < x.2.2.2.2.1.heap.size) (hbA : ¬ zA G b) (t0 : zty G 0 1 9) (t1 : zty G 116 1 10) (t3 : zty G 603 2 2) {j : Nat} (hj : j + 7 ≤ L) (hL : L < 2 ^ 31) {cs sl : Nat} (hcs : cs + 5 ≤ x.2.2.2.1.cells ∧ sl + 30 ≤ x.2.2.2.1.slots) (v w : zV) (h : fLc_49 v = some w) (kk : zJ x G 7 Q (cs + 5) (sl + 30) 2917 [(0, .ref b), (1, zr G 0), (2, zr G 116), (3, zr G 603), (4, .int (nI j))] [] w) : zJ x G 7 Q cs sl 2854 [(0, .ref b), (1, zr G 0), (2, zr G 116), (3, zr G 603), (4, .int (nI j))] [] v := by
  obtain ⟨hfr1, hfr2⟩ := hfr
  obtain ⟨hcs1, hcs2⟩ := hcs
  unfold fLc_49 at h
  refine z_aload_n F dL_law__2854 rfl 1 rfl ?_
  obtain ⟨r_2, v_1, hq2855, h⟩ := zbind_ex h
  refine z_callVi F [] [] (kX9_restore x.2.1 G 0 t0 v r_2 v_1 hq2855) mI_X9_restore (c := 9) rfl t0 wM_L_304 mi_X9_restore sl_X9_restore dL_law__2855 rfl ⟨by omega, by omega⟩ rfl (Nat.le_of_ble_eq_true rfl) ⟨by omega, by omega⟩ ?_
  refine z_aload_n F dL_law__2858 rfl 2 rfl ?_
  obtain ⟨r_4, v_3, hq2859, h⟩ := zbind_ex h
  refine z_callVi F [] [.int r_2] (kX10_restore x.2.1 G 116 t1 v_1 r_4 v_3 hq2859) mI_X10_restore (c := 10) rfl t1 wM_L_307 mi_X10_restore sl_X10_restore dL_law__2859 rfl ⟨by omega, by omega⟩ rfl (Nat.le_of_ble_eq_true rfl) ⟨by omega, by omega⟩ ?_
  refine z_icmp_eq F 2917 dL_law__2862 rfl (fun hc => ?_) (fun hc => ?_)
  · replace h := zif_t hc h
    cases h
    refine z_ls [(0, .ref b), (1, zr G 0), (2, zr G 116), (3, zr G 603), (4, .int (nI j))] [0, 1, 2, 3, 4] rfl ?_
    exact z_wide (cs' := cs + 5) (sl' := sl + 30) (by omega) (by omega) kk
  · replace h := zif_f hc h
    exact absurd h (by intro q; cases q)

theorem dL_law__2867 : decode cL_law_ 2867 = .ok (.aload_n 1, 1) := by decide +kernel
theorem dL_law__2868 : decode cL_law_ 2868 = .ok (.aload_n 0, 1) := by decide +kernel
theorem dL_law__2869 : decode cL_law_ 2869 = .ok (.iload 4, 2) := by decide +kernel
theorem dL_law__2871 : decode cL_law_ 2871 = .ok (.iconst 1, 1) := by decide +kernel
theorem dL_law__2872 : decode cL_law_ 2872 = .ok (.iadd, 1) := by decide +kernel
theorem dL_law__2873 : decode cL_law_ 2873 = .ok (.iaload, 1) := by decide +kernel
theorem dL_law__2874 : decode cL_law_ 2874 = .ok (.invokevirtual 308, 3) := by decide +kernel
theorem dL_law__2877 : decode cL_law_ 2877 = .ok (.aload_n 2, 1) := by decide +kernel
theorem dL_law__2878 : decode cL_law_ 2878 = .ok (.aload_n 0, 1) := by decide +kernel
theorem dL_law__2879 : decode cL_law_ 2879 = .ok (.iload 4, 2) := by decide +kernel
theorem dL_law__2881 : decode cL_law_ 2881 = .ok (.iconst 1, 1) := by decide +kernel
theorem dL_law__2882 : decode cL_law_ 2882 = .ok (.iadd, 1) := by decide +kernel
theorem dL_law__2883 : decode cL_law_ 2883 = .ok (.iaload, 1) := by decide +kernel
theorem dL_law__2884 : decode cL_law_ 2884 = .ok (.invokevirtual 311, 3) := by decide +kernel
theorem dL_law__2887 : decode cL_law_ 2887 = .ok (.if_icmp .eq 30, 3) := by decide +kernel
theorem dL_law__2890 : decode cL_law_ 2890 = .ok (.iconst 0, 1) := by decide +kernel
theorem dL_law__2891 : decode cL_law_ 2891 = .ok (.ireturn, 1) := by decide +kernel
def fLc_50 (p1 : Int32) (v : zV) : Option zV :=
  zbind (fX9_status 0 p1 v) fun r_2 v_1 =>
  zbind (fX10_status 116 p1 v_1) fun r_4 v_3 =>
  if r_2 = r_4 then
    some v_3
  else
    none
set_option maxRecDepth 8000 in
set_option maxHeartbeats 1000000 in
theorem jLc_50 {x : zCx} {G : zG} {fr lo b L : Nat} {xs : Nat → Int32} {Q : State → Prop} (F : zF x G cL_law_ 7 RL fr lo) (hfr : 400 ≤ fr ∧ 20000 ≤ lo) (hfl : x.2.1.stackTraces = false) (hX : va_X b L xs x.2.2.2.2.1 x.2.2.2.2.1.heap) (hbl : b < x.2.2.2.2.1.heap.size) (hbA : ¬ zA G b) (t0 : zty G 0 1 9) (t1 : zty G 116 1 10) (t3 : zty G 603 2 2) {j : Nat} (hj : j + 7 ≤ L) (hL : L < 2 ^ 31) {cs sl : Nat} (hcs : cs + 5 ≤ x.2.2.2.1.cells ∧ sl + 30 ≤ x.2.2.2.1.slots) (v w : zV) (h : fLc_50 (xs (j + 1)) v = some w) (kk : zJ x G 7 Q (cs + 5) (sl + 30) 2917 [(0, .ref b), (1, zr G 0), (2, zr G 116), (3, zr G 603), (4, .int (nI j))] [] w) : zJ x G 7 Q cs sl 2867 [(0, .ref b), (1, zr G 0), (2, zr G 116), (3, zr G 603), (4, .int (nI j))] [] v := by
  obtain ⟨hfr1, hfr2⟩ := hfr
  obtain ⟨hcs1, hcs2⟩ := hcs
  unfold fLc_50 at h
  refine z_aload_n F dL_law__2867 rfl 1 rfl ?_
  refine z_aload_n F dL_law__2868 rfl 0 rfl ?_
  refine z_iload F dL_law__2869 4 rfl ?_
  refine z_iconst (y := (1 : Int32)) F dL_law__2871 rfl ?_
  refine z_iadd F dL_law__2872 ?_
  refine z_sld F hX hbl hbA (nI_add j 1) (by omega) hL dL_law__2873 ?_
  obtain ⟨r_2, v_1, hq2874, h⟩ := zbind_ex h
  refine z_callVi F [.int (xs (j + 1))] [] (kX9_status x.2.1 G 0 t0 (xs (j + 1)) v r_2 v_1 hq2874) mI_X9_status (c := 9) rfl t0 wM_L_308 mi_X9_status sl_X9_status dL_law__2874 rfl ⟨by omega, by omega⟩ rfl (Nat.le_of_ble_eq_true rfl) ⟨by omega, by omega⟩ ?_
  refine z_aload_n F dL_law__2877 rfl 2 rfl ?_
  refine z_aload_n F dL_law__2878 rfl 0 rfl ?_
  refine z_iload F dL_law__2879 4 rfl ?_
  refine z_iconst (y := (1 : Int32)) F dL_law__2881 rfl ?_
  refine z_iadd F dL_law__2882 ?_
  refine z_sld F hX hbl hbA (nI_add j 1) (by omega) hL dL_law__2883 ?_
  obtain ⟨r_4, v_3, hq2884, h⟩ := zbind_ex h
  refine z_callVi F [.int (xs (j + 1))] [.int r_2] (kX10_status x.2.1 G 116 t1 (xs (j + 1)) v_1 r_4 v_3 hq2884) mI_X10_status (c := 10) rfl t1 wM_L_311 mi_X10_status sl_X10_status dL_law__2884 rfl ⟨by omega, by omega⟩ rfl (Nat.le_of_ble_eq_true rfl) ⟨by omega, by omega⟩ ?_
  refine z_icmp_eq F 2917 dL_law__2887 rfl (fun hc => ?_) (fun hc => ?_)
  · replace h := zif_t hc h
    cases h
    refine z_ls [(0, .ref b), (1, zr G 0), (2, zr G 116), (3, zr G 603), (4, .int (nI j))] [0, 1, 2, 3, 4] rfl ?_
    exact z_wide (cs' := cs + 5) (sl' := sl + 30) (by omega) (by omega) kk
  · replace h := zif_f hc h
    exact absurd h (by intro q; cases q)

theorem dL_law__2892 : decode cL_law_ 2892 = .ok (.aload_n 1, 1) := by decide +kernel
theorem dL_law__2893 : decode cL_law_ 2893 = .ok (.aload_n 0, 1) := by decide +kernel
theorem dL_law__2894 : decode cL_law_ 2894 = .ok (.iload 4, 2) := by decide +kernel
theorem dL_law__2896 : decode cL_law_ 2896 = .ok (.iconst 1, 1) := by decide +kernel
theorem dL_law__2897 : decode cL_law_ 2897 = .ok (.iadd, 1) := by decide +kernel
theorem dL_law__2898 : decode cL_law_ 2898 = .ok (.iaload, 1) := by decide +kernel
theorem dL_law__2899 : decode cL_law_ 2899 = .ok (.invokevirtual 312, 3) := by decide +kernel
theorem dL_law__2902 : decode cL_law_ 2902 = .ok (.aload_n 2, 1) := by decide +kernel
theorem dL_law__2903 : decode cL_law_ 2903 = .ok (.aload_n 0, 1) := by decide +kernel
theorem dL_law__2904 : decode cL_law_ 2904 = .ok (.iload 4, 2) := by decide +kernel
theorem dL_law__2906 : decode cL_law_ 2906 = .ok (.iconst 1, 1) := by decide +kernel
theorem dL_law__2907 : decode cL_law_ 2907 = .ok (.iadd, 1) := by decide +kernel
theorem dL_law__2908 : decode cL_law_ 2908 = .ok (.iaload, 1) := by decide +kernel
theorem dL_law__2909 : decode cL_law_ 2909 = .ok (.invokevirtual 315, 3) := by decide +kernel
theorem dL_law__2912 : decode cL_law_ 2912 = .ok (.if_icmp .eq 5, 3) := by decide +kernel
theorem dL_law__2915 : decode cL_law_ 2915 = .ok (.iconst 0, 1) := by decide +kernel
theorem dL_law__2916 : decode cL_law_ 2916 = .ok (.ireturn, 1) := by decide +kernel
def fLc_51 (p1 : Int32) (v : zV) : Option zV :=
  zbind (fX9_count 0 p1 v) fun r_2 v_1 =>
  zbind (fX10_count 116 p1 v_1) fun r_4 v_3 =>
  if r_2 = r_4 then
    some v_3
  else
    none
set_option maxRecDepth 8000 in
set_option maxHeartbeats 1000000 in
theorem jLc_51 {x : zCx} {G : zG} {fr lo b L : Nat} {xs : Nat → Int32} {Q : State → Prop} (F : zF x G cL_law_ 7 RL fr lo) (hfr : 400 ≤ fr ∧ 20000 ≤ lo) (hfl : x.2.1.stackTraces = false) (hX : va_X b L xs x.2.2.2.2.1 x.2.2.2.2.1.heap) (hbl : b < x.2.2.2.2.1.heap.size) (hbA : ¬ zA G b) (t0 : zty G 0 1 9) (t1 : zty G 116 1 10) (t3 : zty G 603 2 2) {j : Nat} (hj : j + 7 ≤ L) (hL : L < 2 ^ 31) {cs sl : Nat} (hcs : cs + 5 ≤ x.2.2.2.1.cells ∧ sl + 30 ≤ x.2.2.2.1.slots) (v w : zV) (h : fLc_51 (xs (j + 1)) v = some w) (kk : zJ x G 7 Q (cs + 5) (sl + 30) 2917 [(0, .ref b), (1, zr G 0), (2, zr G 116), (3, zr G 603), (4, .int (nI j))] [] w) : zJ x G 7 Q cs sl 2892 [(0, .ref b), (1, zr G 0), (2, zr G 116), (3, zr G 603), (4, .int (nI j))] [] v := by
  obtain ⟨hfr1, hfr2⟩ := hfr
  obtain ⟨hcs1, hcs2⟩ := hcs
  unfold fLc_51 at h
  refine z_aload_n F dL_law__2892 rfl 1 rfl ?_
  refine z_aload_n F dL_law__2893 rfl 0 rfl ?_
  refine z_iload F dL_law__2894 4 rfl ?_
  refine z_iconst (y := (1 : Int32)) F dL_law__2896 rfl ?_
  refine z_iadd F dL_law__2897 ?_
  refine z_sld F hX hbl hbA (nI_add j 1) (by omega) hL dL_law__2898 ?_
  obtain ⟨r_2, v_1, hq2899, h⟩ := zbind_ex h
  refine z_callVi F [.int (xs (j + 1))] [] (kX9_count x.2.1 G 0 t0 (xs (j + 1)) v r_2 v_1 hq2899) mI_X9_count (c := 9) rfl t0 wM_L_312 mi_X9_count sl_X9_count dL_law__2899 rfl ⟨by omega, by omega⟩ rfl (Nat.le_of_ble_eq_true rfl) ⟨by omega, by omega⟩ ?_
  refine z_aload_n F dL_law__2902 rfl 2 rfl ?_
  refine z_aload_n F dL_law__2903 rfl 0 rfl ?_
  refine z_iload F dL_law__2904 4 rfl ?_
  refine z_iconst (y := (1 : Int32)) F dL_law__2906 rfl ?_
  refine z_iadd F dL_law__2907 ?_
  refine z_sld F hX hbl hbA (nI_add j 1) (by omega) hL dL_law__2908 ?_
  obtain ⟨r_4, v_3, hq2909, h⟩ := zbind_ex h
  refine z_callVi F [.int (xs (j + 1))] [.int r_2] (kX10_count x.2.1 G 116 t1 (xs (j + 1)) v_1 r_4 v_3 hq2909) mI_X10_count (c := 10) rfl t1 wM_L_315 mi_X10_count sl_X10_count dL_law__2909 rfl ⟨by omega, by omega⟩ rfl (Nat.le_of_ble_eq_true rfl) ⟨by omega, by omega⟩ ?_
  refine z_icmp_eq F 2917 dL_law__2912 rfl (fun hc => ?_) (fun hc => ?_)
  · replace h := zif_t hc h
    cases h
    refine z_ls [(0, .ref b), (1, zr G 0), (2, zr G 116), (3, zr G 603), (4, .int (nI j))] [0, 1, 2, 3, 4] rfl ?_
    exact z_wide (cs' := cs + 5) (sl' := sl + 30) (by omega) (by omega) kk
  · replace h := zif_f hc h
    exact absurd h (by intro q; cases q)

