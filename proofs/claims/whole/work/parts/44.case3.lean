theorem dL_law__1710 : decode cL_law_ 1710 = .ok (.aload_n 1, 1) := by decide +kernel
theorem dL_law__1711 : decode cL_law_ 1711 = .ok (.aload_n 0, 1) := by decide +kernel
theorem dL_law__1712 : decode cL_law_ 1712 = .ok (.iload 4, 2) := by decide +kernel
theorem dL_law__1714 : decode cL_law_ 1714 = .ok (.iconst 1, 1) := by decide +kernel
theorem dL_law__1715 : decode cL_law_ 1715 = .ok (.iadd, 1) := by decide +kernel
theorem dL_law__1716 : decode cL_law_ 1716 = .ok (.iaload, 1) := by decide +kernel
theorem dL_law__1717 : decode cL_law_ 1717 = .ok (.aload_n 3, 1) := by decide +kernel
theorem dL_law__1718 : decode cL_law_ 1718 = .ok (.invokestatic 230, 3) := by decide +kernel
theorem dL_law__1721 : decode cL_law_ 1721 = .ok (.istore 5, 2) := by decide +kernel
theorem dL_law__1723 : decode cL_law_ 1723 = .ok (.aload_n 2, 1) := by decide +kernel
theorem dL_law__1724 : decode cL_law_ 1724 = .ok (.aload_n 0, 1) := by decide +kernel
theorem dL_law__1725 : decode cL_law_ 1725 = .ok (.iload 4, 2) := by decide +kernel
theorem dL_law__1727 : decode cL_law_ 1727 = .ok (.iconst 1, 1) := by decide +kernel
theorem dL_law__1728 : decode cL_law_ 1728 = .ok (.iadd, 1) := by decide +kernel
theorem dL_law__1729 : decode cL_law_ 1729 = .ok (.iaload, 1) := by decide +kernel
theorem dL_law__1730 : decode cL_law_ 1730 = .ok (.invokevirtual 232, 3) := by decide +kernel
theorem dL_law__1733 : decode cL_law_ 1733 = .ok (.istore 6, 2) := by decide +kernel
theorem dL_law__1735 : decode cL_law_ 1735 = .ok (.aload_n 2, 1) := by decide +kernel
theorem dL_law__1736 : decode cL_law_ 1736 = .ok (.invokevirtual 144, 3) := by decide +kernel
theorem dL_law__1739 : decode cL_law_ 1739 = .ok (.iload 5, 2) := by decide +kernel
theorem dL_law__1741 : decode cL_law_ 1741 = .ok (.if_icmp .eq 5, 3) := by decide +kernel
theorem dL_law__1744 : decode cL_law_ 1744 = .ok (.iconst 0, 1) := by decide +kernel
theorem dL_law__1745 : decode cL_law_ 1745 = .ok (.ireturn, 1) := by decide +kernel
theorem dL_law__1746 : decode cL_law_ 1746 = .ok (.iload 5, 2) := by decide +kernel
theorem dL_law__1748 : decode cL_law_ 1748 = .ok (.ifCond .ne 15, 3) := by decide +kernel
theorem dL_law__1751 : decode cL_law_ 1751 = .ok (.aload_n 3, 1) := by decide +kernel
theorem dL_law__1752 : decode cL_law_ 1752 = .ok (.iconst 0, 1) := by decide +kernel
theorem dL_law__1753 : decode cL_law_ 1753 = .ok (.laload, 1) := by decide +kernel
theorem dL_law__1754 : decode cL_law_ 1754 = .ok (.iload 6, 2) := by decide +kernel
theorem dL_law__1756 : decode cL_law_ 1756 = .ok (.i2l, 1) := by decide +kernel
theorem dL_law__1757 : decode cL_law_ 1757 = .ok (.lcmp, 1) := by decide +kernel
theorem dL_law__1758 : decode cL_law_ 1758 = .ok (.ifCond .eq 5, 3) := by decide +kernel
theorem dL_law__1761 : decode cL_law_ 1761 = .ok (.iconst 0, 1) := by decide +kernel
theorem dL_law__1762 : decode cL_law_ 1762 = .ok (.ireturn, 1) := by decide +kernel
theorem dL_law__1763 : decode cL_law_ 1763 = .ok (.goto 1154, 3) := by decide +kernel
def fLc_27 (p1 : Int32) (v : zV) : Option zV :=
  zbind (fL_enemy 0 p1 603 v) fun r_2 v_1 =>
  zbind (fX10_enemy 116 p1 v_1) fun r_4 v_3 =>
  zbind (fX10_thrown 116 v_3) fun r_6 v_5 =>
  if r_6 = r_2 then
    if r_2 = (0 : Int32) then
      zix (0 : Int32) (zlen 603) <|
      if (lg_cmp ((v_5 603 (0 : Int32).toNatClampNeg).toInt64) ((r_4).toInt64)) = (0 : Int32) then
        some v_5
      else
        none
    else
      some v_5
  else
    none
set_option maxRecDepth 8000 in
set_option maxHeartbeats 1000000 in
theorem jLc_27 {x : zCx} {G : zG} {fr lo b L : Nat} {xs : Nat → Int32} {Q : State → Prop} (F : zF x G cL_law_ 7 RL fr lo) (hfr : 400 ≤ fr ∧ 20000 ≤ lo) (hfl : x.2.1.stackTraces = false) (hX : va_X b L xs x.2.2.2.2.1 x.2.2.2.2.1.heap) (hbl : b < x.2.2.2.2.1.heap.size) (hbA : ¬ zA G b) (t0 : zty G 0 1 9) (t1 : zty G 116 1 10) (t3 : zty G 603 2 2) {j : Nat} (hj : j + 7 ≤ L) (hL : L < 2 ^ 31) {cs sl : Nat} (hcs : cs + 5 ≤ x.2.2.2.1.cells ∧ sl + 30 ≤ x.2.2.2.1.slots) (v w : zV) (h : fLc_27 (xs (j + 1)) v = some w) (kk : zJ x G 7 Q (cs + 5) (sl + 30) 2917 [(0, .ref b), (1, zr G 0), (2, zr G 116), (3, zr G 603), (4, .int (nI j))] [] w) : zJ x G 7 Q cs sl 1710 [(0, .ref b), (1, zr G 0), (2, zr G 116), (3, zr G 603), (4, .int (nI j))] [] v := by
  obtain ⟨hfr1, hfr2⟩ := hfr
  obtain ⟨hcs1, hcs2⟩ := hcs
  unfold fLc_27 at h
  refine z_aload_n F dL_law__1710 rfl 1 rfl ?_
  refine z_aload_n F dL_law__1711 rfl 0 rfl ?_
  refine z_iload F dL_law__1712 4 rfl ?_
  refine z_iconst (y := (1 : Int32)) F dL_law__1714 rfl ?_
  refine z_iadd F dL_law__1715 ?_
  refine z_sld F hX hbl hbA (nI_add j 1) (by omega) hL dL_law__1716 ?_
  refine z_aload_n F dL_law__1717 rfl 3 rfl ?_
  obtain ⟨r_2, v_1, hq1718, h⟩ := zbind_ex h
  refine z_callSW (n := 3) F [zr G 0, .int (xs (j + 1)), zr G 603] [] (kL_enemy x.2.1 G 0 t0 (xs (j + 1)) 603 t3 v r_2 v_1 hfl hq1718) kw_L_enemy wM_L_230 ms_L_enemy dL_law__1718 rfl (by decide +kernel) ⟨by omega, by omega⟩ rfl (Nat.le_of_ble_eq_true rfl) ⟨by omega, by omega⟩ ?_
  refine z_istore (n := 0) F [(5, .int r_2), (0, .ref b), (1, zr G 0), (2, zr G 116), (3, zr G 603), (4, .int (nI j))] dL_law__1721 (Nat.le_of_ble_eq_true rfl) rfl ?_
  refine z_aload_n F dL_law__1723 rfl 3 rfl ?_
  refine z_aload_n F dL_law__1724 rfl 1 rfl ?_
  refine z_iload F dL_law__1725 5 rfl ?_
  refine z_iconst (y := (1 : Int32)) F dL_law__1727 rfl ?_
  refine z_iadd F dL_law__1728 ?_
  refine z_sld F hX hbl hbA (nI_add j 1) (by omega) hL dL_law__1729 ?_
  obtain ⟨r_4, v_3, hq1730, h⟩ := zbind_ex h
  refine z_callVi F [.int (xs (j + 1))] [] (kX10_enemy x.2.1 G 116 t1 (xs (j + 1)) v_1 r_4 v_3 hq1730) mI_X10_enemy (c := 10) rfl t1 wM_L_232 mi_X10_enemy sl_X10_enemy dL_law__1730 rfl ⟨by omega, by omega⟩ rfl (Nat.le_of_ble_eq_true rfl) ⟨by omega, by omega⟩ ?_
  refine z_istore (n := 0) F [(6, .int r_4), (5, .int r_2), (0, .ref b), (1, zr G 0), (2, zr G 116), (3, zr G 603), (4, .int (nI j))] dL_law__1733 (Nat.le_of_ble_eq_true rfl) rfl ?_
  refine z_aload_n F dL_law__1735 rfl 4 rfl ?_
  obtain ⟨r_6, v_5, hq1736, h⟩ := zbind_ex h
  refine z_callVi F [] [] (kX10_thrown x.2.1 G 116 t1 v_3 r_6 v_5 hq1736) mI_X10_thrown (c := 10) rfl t1 wM_L_144 mi_X10_thrown sl_X10_thrown dL_law__1736 rfl ⟨by omega, by omega⟩ rfl (Nat.le_of_ble_eq_true rfl) ⟨by omega, by omega⟩ ?_
  refine z_iload F dL_law__1739 1 rfl ?_
  refine z_icmp_eq F 1746 dL_law__1741 rfl (fun hc => ?_) (fun hc => ?_)
  · replace h := zif_t hc h
    refine z_iload F dL_law__1746 1 rfl ?_
    refine z_if_ne F 1763 dL_law__1748 rfl (fun hc => ?_) (fun hc => ?_)
    · replace h := zif_f hc h
      refine z_goto F 2917 dL_law__1763 rfl ?_
      cases h
      refine z_ls [(0, .ref b), (1, zr G 0), (2, zr G 116), (3, zr G 603), (4, .int (nI j))] [2, 3, 4, 5, 6] rfl ?_
      exact z_wide (cs' := cs + 5) (sl' := sl + 30) (by omega) (by omega) kk
    · replace h := zif_t hc h
      refine z_aload_n F dL_law__1751 rfl 5 rfl ?_
      refine z_iconst (y := (0 : Int32)) F dL_law__1752 rfl ?_
      obtain ⟨hi1753, h⟩ := zix_ex h
      refine z_lald F t3 dL_law__1753 hi1753 ?_
      refine z_iload F dL_law__1754 0 rfl ?_
      refine z_i2l F dL_law__1756 ?_
      refine z_lcmp F dL_law__1757 ?_
      refine z_if_eq F 1763 dL_law__1758 rfl (fun hc => ?_) (fun hc => ?_)
      · replace h := zif_t hc h
        refine z_goto F 2917 dL_law__1763 rfl ?_
        cases h
        refine z_ls [(0, .ref b), (1, zr G 0), (2, zr G 116), (3, zr G 603), (4, .int (nI j))] [2, 3, 4, 5, 6] rfl ?_
        exact z_wide (cs' := cs + 5) (sl' := sl + 30) (by omega) (by omega) kk
      · replace h := zif_f hc h
        exact absurd h (by intro q; cases q)
  · replace h := zif_f hc h
    exact absurd h (by intro q; cases q)

theorem dL_law__1766 : decode cL_law_ 1766 = .ok (.aload_n 1, 1) := by decide +kernel
theorem dL_law__1767 : decode cL_law_ 1767 = .ok (.aload_n 0, 1) := by decide +kernel
theorem dL_law__1768 : decode cL_law_ 1768 = .ok (.iload 4, 2) := by decide +kernel
theorem dL_law__1770 : decode cL_law_ 1770 = .ok (.iconst 1, 1) := by decide +kernel
theorem dL_law__1771 : decode cL_law_ 1771 = .ok (.iadd, 1) := by decide +kernel
theorem dL_law__1772 : decode cL_law_ 1772 = .ok (.iaload, 1) := by decide +kernel
theorem dL_law__1773 : decode cL_law_ 1773 = .ok (.aload_n 0, 1) := by decide +kernel
theorem dL_law__1774 : decode cL_law_ 1774 = .ok (.iload 4, 2) := by decide +kernel
theorem dL_law__1776 : decode cL_law_ 1776 = .ok (.iconst 2, 1) := by decide +kernel
theorem dL_law__1777 : decode cL_law_ 1777 = .ok (.iadd, 1) := by decide +kernel
theorem dL_law__1778 : decode cL_law_ 1778 = .ok (.iaload, 1) := by decide +kernel
theorem dL_law__1779 : decode cL_law_ 1779 = .ok (.aload_n 3, 1) := by decide +kernel
theorem dL_law__1780 : decode cL_law_ 1780 = .ok (.invokestatic 233, 3) := by decide +kernel
theorem dL_law__1783 : decode cL_law_ 1783 = .ok (.istore 5, 2) := by decide +kernel
theorem dL_law__1785 : decode cL_law_ 1785 = .ok (.aload_n 2, 1) := by decide +kernel
theorem dL_law__1786 : decode cL_law_ 1786 = .ok (.aload_n 0, 1) := by decide +kernel
theorem dL_law__1787 : decode cL_law_ 1787 = .ok (.iload 4, 2) := by decide +kernel
theorem dL_law__1789 : decode cL_law_ 1789 = .ok (.iconst 1, 1) := by decide +kernel
theorem dL_law__1790 : decode cL_law_ 1790 = .ok (.iadd, 1) := by decide +kernel
theorem dL_law__1791 : decode cL_law_ 1791 = .ok (.iaload, 1) := by decide +kernel
theorem dL_law__1792 : decode cL_law_ 1792 = .ok (.aload_n 0, 1) := by decide +kernel
theorem dL_law__1793 : decode cL_law_ 1793 = .ok (.iload 4, 2) := by decide +kernel
theorem dL_law__1795 : decode cL_law_ 1795 = .ok (.iconst 2, 1) := by decide +kernel
theorem dL_law__1796 : decode cL_law_ 1796 = .ok (.iadd, 1) := by decide +kernel
theorem dL_law__1797 : decode cL_law_ 1797 = .ok (.iaload, 1) := by decide +kernel
theorem dL_law__1798 : decode cL_law_ 1798 = .ok (.invokevirtual 235, 3) := by decide +kernel
theorem dL_law__1801 : decode cL_law_ 1801 = .ok (.istore 6, 2) := by decide +kernel
theorem dL_law__1803 : decode cL_law_ 1803 = .ok (.aload_n 2, 1) := by decide +kernel
theorem dL_law__1804 : decode cL_law_ 1804 = .ok (.invokevirtual 144, 3) := by decide +kernel
theorem dL_law__1807 : decode cL_law_ 1807 = .ok (.iload 5, 2) := by decide +kernel
theorem dL_law__1809 : decode cL_law_ 1809 = .ok (.if_icmp .eq 5, 3) := by decide +kernel
theorem dL_law__1812 : decode cL_law_ 1812 = .ok (.iconst 0, 1) := by decide +kernel
theorem dL_law__1813 : decode cL_law_ 1813 = .ok (.ireturn, 1) := by decide +kernel
theorem dL_law__1814 : decode cL_law_ 1814 = .ok (.iload 5, 2) := by decide +kernel
theorem dL_law__1816 : decode cL_law_ 1816 = .ok (.ifCond .ne 15, 3) := by decide +kernel
theorem dL_law__1819 : decode cL_law_ 1819 = .ok (.aload_n 3, 1) := by decide +kernel
theorem dL_law__1820 : decode cL_law_ 1820 = .ok (.iconst 0, 1) := by decide +kernel
theorem dL_law__1821 : decode cL_law_ 1821 = .ok (.laload, 1) := by decide +kernel
theorem dL_law__1822 : decode cL_law_ 1822 = .ok (.iload 6, 2) := by decide +kernel
theorem dL_law__1824 : decode cL_law_ 1824 = .ok (.i2l, 1) := by decide +kernel
theorem dL_law__1825 : decode cL_law_ 1825 = .ok (.lcmp, 1) := by decide +kernel
theorem dL_law__1826 : decode cL_law_ 1826 = .ok (.ifCond .eq 5, 3) := by decide +kernel
theorem dL_law__1829 : decode cL_law_ 1829 = .ok (.iconst 0, 1) := by decide +kernel
theorem dL_law__1830 : decode cL_law_ 1830 = .ok (.ireturn, 1) := by decide +kernel
theorem dL_law__1831 : decode cL_law_ 1831 = .ok (.goto 1086, 3) := by decide +kernel
def fLc_28 (p1 : Int32) (p2 : Int32) (v : zV) : Option zV :=
  zbind (fL_ring 0 p1 p2 603 v) fun r_2 v_1 =>
  zbind (fX10_ring 116 p1 p2 v_1) fun r_4 v_3 =>
  zbind (fX10_thrown 116 v_3) fun r_6 v_5 =>
  if r_6 = r_2 then
    if r_2 = (0 : Int32) then
      zix (0 : Int32) (zlen 603) <|
      if (lg_cmp ((v_5 603 (0 : Int32).toNatClampNeg).toInt64) ((r_4).toInt64)) = (0 : Int32) then
        some v_5
      else
        none
    else
      some v_5
  else
    none
set_option maxRecDepth 8000 in
set_option maxHeartbeats 1000000 in
theorem jLc_28 {x : zCx} {G : zG} {fr lo b L : Nat} {xs : Nat → Int32} {Q : State → Prop} (F : zF x G cL_law_ 7 RL fr lo) (hfr : 400 ≤ fr ∧ 20000 ≤ lo) (hfl : x.2.1.stackTraces = false) (hX : va_X b L xs x.2.2.2.2.1 x.2.2.2.2.1.heap) (hbl : b < x.2.2.2.2.1.heap.size) (hbA : ¬ zA G b) (t0 : zty G 0 1 9) (t1 : zty G 116 1 10) (t3 : zty G 603 2 2) {j : Nat} (hj : j + 7 ≤ L) (hL : L < 2 ^ 31) {cs sl : Nat} (hcs : cs + 5 ≤ x.2.2.2.1.cells ∧ sl + 30 ≤ x.2.2.2.1.slots) (v w : zV) (h : fLc_28 (xs (j + 1)) (xs (j + 2)) v = some w) (kk : zJ x G 7 Q (cs + 5) (sl + 30) 2917 [(0, .ref b), (1, zr G 0), (2, zr G 116), (3, zr G 603), (4, .int (nI j))] [] w) : zJ x G 7 Q cs sl 1766 [(0, .ref b), (1, zr G 0), (2, zr G 116), (3, zr G 603), (4, .int (nI j))] [] v := by
  obtain ⟨hfr1, hfr2⟩ := hfr
  obtain ⟨hcs1, hcs2⟩ := hcs
  unfold fLc_28 at h
  refine z_aload_n F dL_law__1766 rfl 1 rfl ?_
  refine z_aload_n F dL_law__1767 rfl 0 rfl ?_
  refine z_iload F dL_law__1768 4 rfl ?_
  refine z_iconst (y := (1 : Int32)) F dL_law__1770 rfl ?_
  refine z_iadd F dL_law__1771 ?_
  refine z_sld F hX hbl hbA (nI_add j 1) (by omega) hL dL_law__1772 ?_
  refine z_aload_n F dL_law__1773 rfl 0 rfl ?_
  refine z_iload F dL_law__1774 4 rfl ?_
  refine z_iconst (y := (2 : Int32)) F dL_law__1776 rfl ?_
  refine z_iadd F dL_law__1777 ?_
  refine z_sld F hX hbl hbA (nI_add j 2) (by omega) hL dL_law__1778 ?_
  refine z_aload_n F dL_law__1779 rfl 3 rfl ?_
  obtain ⟨r_2, v_1, hq1780, h⟩ := zbind_ex h
  refine z_callSW (n := 4) F [zr G 0, .int (xs (j + 1)), .int (xs (j + 2)), zr G 603] [] (kL_ring x.2.1 G 0 t0 (xs (j + 1)) (xs (j + 2)) 603 t3 v r_2 v_1 hfl hq1780) kw_L_ring wM_L_233 ms_L_ring dL_law__1780 rfl (by decide +kernel) ⟨by omega, by omega⟩ rfl (Nat.le_of_ble_eq_true rfl) ⟨by omega, by omega⟩ ?_
  refine z_istore (n := 0) F [(5, .int r_2), (0, .ref b), (1, zr G 0), (2, zr G 116), (3, zr G 603), (4, .int (nI j))] dL_law__1783 (Nat.le_of_ble_eq_true rfl) rfl ?_
  refine z_aload_n F dL_law__1785 rfl 3 rfl ?_
  refine z_aload_n F dL_law__1786 rfl 1 rfl ?_
  refine z_iload F dL_law__1787 5 rfl ?_
  refine z_iconst (y := (1 : Int32)) F dL_law__1789 rfl ?_
  refine z_iadd F dL_law__1790 ?_
  refine z_sld F hX hbl hbA (nI_add j 1) (by omega) hL dL_law__1791 ?_
  refine z_aload_n F dL_law__1792 rfl 1 rfl ?_
  refine z_iload F dL_law__1793 5 rfl ?_
  refine z_iconst (y := (2 : Int32)) F dL_law__1795 rfl ?_
  refine z_iadd F dL_law__1796 ?_
  refine z_sld F hX hbl hbA (nI_add j 2) (by omega) hL dL_law__1797 ?_
  obtain ⟨r_4, v_3, hq1798, h⟩ := zbind_ex h
  refine z_callVi F [.int (xs (j + 1)), .int (xs (j + 2))] [] (kX10_ring x.2.1 G 116 t1 (xs (j + 1)) (xs (j + 2)) v_1 r_4 v_3 hq1798) mI_X10_ring (c := 10) rfl t1 wM_L_235 mi_X10_ring sl_X10_ring dL_law__1798 rfl ⟨by omega, by omega⟩ rfl (Nat.le_of_ble_eq_true rfl) ⟨by omega, by omega⟩ ?_
  refine z_istore (n := 0) F [(6, .int r_4), (5, .int r_2), (0, .ref b), (1, zr G 0), (2, zr G 116), (3, zr G 603), (4, .int (nI j))] dL_law__1801 (Nat.le_of_ble_eq_true rfl) rfl ?_
  refine z_aload_n F dL_law__1803 rfl 4 rfl ?_
  obtain ⟨r_6, v_5, hq1804, h⟩ := zbind_ex h
  refine z_callVi F [] [] (kX10_thrown x.2.1 G 116 t1 v_3 r_6 v_5 hq1804) mI_X10_thrown (c := 10) rfl t1 wM_L_144 mi_X10_thrown sl_X10_thrown dL_law__1804 rfl ⟨by omega, by omega⟩ rfl (Nat.le_of_ble_eq_true rfl) ⟨by omega, by omega⟩ ?_
  refine z_iload F dL_law__1807 1 rfl ?_
  refine z_icmp_eq F 1814 dL_law__1809 rfl (fun hc => ?_) (fun hc => ?_)
  · replace h := zif_t hc h
    refine z_iload F dL_law__1814 1 rfl ?_
    refine z_if_ne F 1831 dL_law__1816 rfl (fun hc => ?_) (fun hc => ?_)
    · replace h := zif_f hc h
      refine z_goto F 2917 dL_law__1831 rfl ?_
      cases h
      refine z_ls [(0, .ref b), (1, zr G 0), (2, zr G 116), (3, zr G 603), (4, .int (nI j))] [2, 3, 4, 5, 6] rfl ?_
      exact z_wide (cs' := cs + 5) (sl' := sl + 30) (by omega) (by omega) kk
    · replace h := zif_t hc h
      refine z_aload_n F dL_law__1819 rfl 5 rfl ?_
      refine z_iconst (y := (0 : Int32)) F dL_law__1820 rfl ?_
      obtain ⟨hi1821, h⟩ := zix_ex h
      refine z_lald F t3 dL_law__1821 hi1821 ?_
      refine z_iload F dL_law__1822 0 rfl ?_
      refine z_i2l F dL_law__1824 ?_
      refine z_lcmp F dL_law__1825 ?_
      refine z_if_eq F 1831 dL_law__1826 rfl (fun hc => ?_) (fun hc => ?_)
      · replace h := zif_t hc h
        refine z_goto F 2917 dL_law__1831 rfl ?_
        cases h
        refine z_ls [(0, .ref b), (1, zr G 0), (2, zr G 116), (3, zr G 603), (4, .int (nI j))] [2, 3, 4, 5, 6] rfl ?_
        exact z_wide (cs' := cs + 5) (sl' := sl + 30) (by omega) (by omega) kk
      · replace h := zif_f hc h
        exact absurd h (by intro q; cases q)
  · replace h := zif_f hc h
    exact absurd h (by intro q; cases q)

theorem dL_law__1834 : decode cL_law_ 1834 = .ok (.aload_n 1, 1) := by decide +kernel
theorem dL_law__1835 : decode cL_law_ 1835 = .ok (.aload_n 0, 1) := by decide +kernel
theorem dL_law__1836 : decode cL_law_ 1836 = .ok (.iload 4, 2) := by decide +kernel
theorem dL_law__1838 : decode cL_law_ 1838 = .ok (.iconst 1, 1) := by decide +kernel
theorem dL_law__1839 : decode cL_law_ 1839 = .ok (.iadd, 1) := by decide +kernel
theorem dL_law__1840 : decode cL_law_ 1840 = .ok (.iaload, 1) := by decide +kernel
theorem dL_law__1841 : decode cL_law_ 1841 = .ok (.aload_n 0, 1) := by decide +kernel
theorem dL_law__1842 : decode cL_law_ 1842 = .ok (.iload 4, 2) := by decide +kernel
theorem dL_law__1844 : decode cL_law_ 1844 = .ok (.iconst 2, 1) := by decide +kernel
theorem dL_law__1845 : decode cL_law_ 1845 = .ok (.iadd, 1) := by decide +kernel
theorem dL_law__1846 : decode cL_law_ 1846 = .ok (.iaload, 1) := by decide +kernel
theorem dL_law__1847 : decode cL_law_ 1847 = .ok (.aload_n 0, 1) := by decide +kernel
theorem dL_law__1848 : decode cL_law_ 1848 = .ok (.iload 4, 2) := by decide +kernel
theorem dL_law__1850 : decode cL_law_ 1850 = .ok (.iconst 3, 1) := by decide +kernel
theorem dL_law__1851 : decode cL_law_ 1851 = .ok (.iadd, 1) := by decide +kernel
theorem dL_law__1852 : decode cL_law_ 1852 = .ok (.iaload, 1) := by decide +kernel
theorem dL_law__1853 : decode cL_law_ 1853 = .ok (.aload_n 3, 1) := by decide +kernel
theorem dL_law__1854 : decode cL_law_ 1854 = .ok (.invokestatic 236, 3) := by decide +kernel
theorem dL_law__1857 : decode cL_law_ 1857 = .ok (.istore 5, 2) := by decide +kernel
theorem dL_law__1859 : decode cL_law_ 1859 = .ok (.aload_n 2, 1) := by decide +kernel
theorem dL_law__1860 : decode cL_law_ 1860 = .ok (.aload_n 0, 1) := by decide +kernel
theorem dL_law__1861 : decode cL_law_ 1861 = .ok (.iload 4, 2) := by decide +kernel
theorem dL_law__1863 : decode cL_law_ 1863 = .ok (.iconst 1, 1) := by decide +kernel
theorem dL_law__1864 : decode cL_law_ 1864 = .ok (.iadd, 1) := by decide +kernel
theorem dL_law__1865 : decode cL_law_ 1865 = .ok (.iaload, 1) := by decide +kernel
theorem dL_law__1866 : decode cL_law_ 1866 = .ok (.aload_n 0, 1) := by decide +kernel
theorem dL_law__1867 : decode cL_law_ 1867 = .ok (.iload 4, 2) := by decide +kernel
theorem dL_law__1869 : decode cL_law_ 1869 = .ok (.iconst 2, 1) := by decide +kernel
theorem dL_law__1870 : decode cL_law_ 1870 = .ok (.iadd, 1) := by decide +kernel
theorem dL_law__1871 : decode cL_law_ 1871 = .ok (.iaload, 1) := by decide +kernel
theorem dL_law__1872 : decode cL_law_ 1872 = .ok (.aload_n 0, 1) := by decide +kernel
theorem dL_law__1873 : decode cL_law_ 1873 = .ok (.iload 4, 2) := by decide +kernel
theorem dL_law__1875 : decode cL_law_ 1875 = .ok (.iconst 3, 1) := by decide +kernel
theorem dL_law__1876 : decode cL_law_ 1876 = .ok (.iadd, 1) := by decide +kernel
theorem dL_law__1877 : decode cL_law_ 1877 = .ok (.iaload, 1) := by decide +kernel
theorem dL_law__1878 : decode cL_law_ 1878 = .ok (.invokevirtual 239, 3) := by decide +kernel
theorem dL_law__1881 : decode cL_law_ 1881 = .ok (.istore 6, 2) := by decide +kernel
theorem dL_law__1883 : decode cL_law_ 1883 = .ok (.aload_n 2, 1) := by decide +kernel
theorem dL_law__1884 : decode cL_law_ 1884 = .ok (.invokevirtual 144, 3) := by decide +kernel
theorem dL_law__1887 : decode cL_law_ 1887 = .ok (.iload 5, 2) := by decide +kernel
theorem dL_law__1889 : decode cL_law_ 1889 = .ok (.if_icmp .eq 5, 3) := by decide +kernel
theorem dL_law__1892 : decode cL_law_ 1892 = .ok (.iconst 0, 1) := by decide +kernel
theorem dL_law__1893 : decode cL_law_ 1893 = .ok (.ireturn, 1) := by decide +kernel
theorem dL_law__1894 : decode cL_law_ 1894 = .ok (.iload 5, 2) := by decide +kernel
theorem dL_law__1896 : decode cL_law_ 1896 = .ok (.ifCond .ne 15, 3) := by decide +kernel
theorem dL_law__1899 : decode cL_law_ 1899 = .ok (.aload_n 3, 1) := by decide +kernel
theorem dL_law__1900 : decode cL_law_ 1900 = .ok (.iconst 0, 1) := by decide +kernel
theorem dL_law__1901 : decode cL_law_ 1901 = .ok (.laload, 1) := by decide +kernel
theorem dL_law__1902 : decode cL_law_ 1902 = .ok (.iload 6, 2) := by decide +kernel
theorem dL_law__1904 : decode cL_law_ 1904 = .ok (.i2l, 1) := by decide +kernel
theorem dL_law__1905 : decode cL_law_ 1905 = .ok (.lcmp, 1) := by decide +kernel
theorem dL_law__1906 : decode cL_law_ 1906 = .ok (.ifCond .eq 5, 3) := by decide +kernel
theorem dL_law__1909 : decode cL_law_ 1909 = .ok (.iconst 0, 1) := by decide +kernel
theorem dL_law__1910 : decode cL_law_ 1910 = .ok (.ireturn, 1) := by decide +kernel
theorem dL_law__1911 : decode cL_law_ 1911 = .ok (.goto 1006, 3) := by decide +kernel
def fLc_29 (p1 : Int32) (p2 : Int32) (p3 : Int32) (v : zV) : Option zV :=
  zbind (fL_vote 0 p1 p2 p3 603 v) fun r_2 v_1 =>
  zbind (fX10_vote 116 p1 p2 p3 v_1) fun r_4 v_3 =>
  zbind (fX10_thrown 116 v_3) fun r_6 v_5 =>
  if r_6 = r_2 then
    if r_2 = (0 : Int32) then
      zix (0 : Int32) (zlen 603) <|
      if (lg_cmp ((v_5 603 (0 : Int32).toNatClampNeg).toInt64) ((r_4).toInt64)) = (0 : Int32) then
        some v_5
      else
        none
    else
      some v_5
  else
    none
set_option maxRecDepth 8000 in
set_option maxHeartbeats 1000000 in
theorem jLc_29 {x : zCx} {G : zG} {fr lo b L : Nat} {xs : Nat → Int32} {Q : State → Prop} (F : zF x G cL_law_ 7 RL fr lo) (hfr : 400 ≤ fr ∧ 20000 ≤ lo) (hfl : x.2.1.stackTraces = false) (hX : va_X b L xs x.2.2.2.2.1 x.2.2.2.2.1.heap) (hbl : b < x.2.2.2.2.1.heap.size) (hbA : ¬ zA G b) (t0 : zty G 0 1 9) (t1 : zty G 116 1 10) (t3 : zty G 603 2 2) {j : Nat} (hj : j + 7 ≤ L) (hL : L < 2 ^ 31) {cs sl : Nat} (hcs : cs + 5 ≤ x.2.2.2.1.cells ∧ sl + 30 ≤ x.2.2.2.1.slots) (v w : zV) (h : fLc_29 (xs (j + 1)) (xs (j + 2)) (xs (j + 3)) v = some w) (kk : zJ x G 7 Q (cs + 5) (sl + 30) 2917 [(0, .ref b), (1, zr G 0), (2, zr G 116), (3, zr G 603), (4, .int (nI j))] [] w) : zJ x G 7 Q cs sl 1834 [(0, .ref b), (1, zr G 0), (2, zr G 116), (3, zr G 603), (4, .int (nI j))] [] v := by
  obtain ⟨hfr1, hfr2⟩ := hfr
  obtain ⟨hcs1, hcs2⟩ := hcs
  unfold fLc_29 at h
  refine z_aload_n F dL_law__1834 rfl 1 rfl ?_
  refine z_aload_n F dL_law__1835 rfl 0 rfl ?_
  refine z_iload F dL_law__1836 4 rfl ?_
  refine z_iconst (y := (1 : Int32)) F dL_law__1838 rfl ?_
  refine z_iadd F dL_law__1839 ?_
  refine z_sld F hX hbl hbA (nI_add j 1) (by omega) hL dL_law__1840 ?_
  refine z_aload_n F dL_law__1841 rfl 0 rfl ?_
  refine z_iload F dL_law__1842 4 rfl ?_
  refine z_iconst (y := (2 : Int32)) F dL_law__1844 rfl ?_
  refine z_iadd F dL_law__1845 ?_
  refine z_sld F hX hbl hbA (nI_add j 2) (by omega) hL dL_law__1846 ?_
  refine z_aload_n F dL_law__1847 rfl 0 rfl ?_
  refine z_iload F dL_law__1848 4 rfl ?_
  refine z_iconst (y := (3 : Int32)) F dL_law__1850 rfl ?_
  refine z_iadd F dL_law__1851 ?_
  refine z_sld F hX hbl hbA (nI_add j 3) (by omega) hL dL_law__1852 ?_
  refine z_aload_n F dL_law__1853 rfl 3 rfl ?_
  obtain ⟨r_2, v_1, hq1854, h⟩ := zbind_ex h
  refine z_callSW (n := 5) F [zr G 0, .int (xs (j + 1)), .int (xs (j + 2)), .int (xs (j + 3)), zr G 603] [] (kL_vote x.2.1 G 0 t0 (xs (j + 1)) (xs (j + 2)) (xs (j + 3)) 603 t3 v r_2 v_1 hfl hq1854) kw_L_vote wM_L_236 ms_L_vote dL_law__1854 rfl (by decide +kernel) ⟨by omega, by omega⟩ rfl (Nat.le_of_ble_eq_true rfl) ⟨by omega, by omega⟩ ?_
  refine z_istore (n := 0) F [(5, .int r_2), (0, .ref b), (1, zr G 0), (2, zr G 116), (3, zr G 603), (4, .int (nI j))] dL_law__1857 (Nat.le_of_ble_eq_true rfl) rfl ?_
  refine z_aload_n F dL_law__1859 rfl 3 rfl ?_
  refine z_aload_n F dL_law__1860 rfl 1 rfl ?_
  refine z_iload F dL_law__1861 5 rfl ?_
  refine z_iconst (y := (1 : Int32)) F dL_law__1863 rfl ?_
  refine z_iadd F dL_law__1864 ?_
  refine z_sld F hX hbl hbA (nI_add j 1) (by omega) hL dL_law__1865 ?_
  refine z_aload_n F dL_law__1866 rfl 1 rfl ?_
  refine z_iload F dL_law__1867 5 rfl ?_
  refine z_iconst (y := (2 : Int32)) F dL_law__1869 rfl ?_
  refine z_iadd F dL_law__1870 ?_
  refine z_sld F hX hbl hbA (nI_add j 2) (by omega) hL dL_law__1871 ?_
  refine z_aload_n F dL_law__1872 rfl 1 rfl ?_
  refine z_iload F dL_law__1873 5 rfl ?_
  refine z_iconst (y := (3 : Int32)) F dL_law__1875 rfl ?_
  refine z_iadd F dL_law__1876 ?_
  refine z_sld F hX hbl hbA (nI_add j 3) (by omega) hL dL_law__1877 ?_
  obtain ⟨r_4, v_3, hq1878, h⟩ := zbind_ex h
  refine z_callVi F [.int (xs (j + 1)), .int (xs (j + 2)), .int (xs (j + 3))] [] (kX10_vote x.2.1 G 116 t1 (xs (j + 1)) (xs (j + 2)) (xs (j + 3)) v_1 r_4 v_3 hq1878) mI_X10_vote (c := 10) rfl t1 wM_L_239 mi_X10_vote sl_X10_vote dL_law__1878 rfl ⟨by omega, by omega⟩ rfl (Nat.le_of_ble_eq_true rfl) ⟨by omega, by omega⟩ ?_
  refine z_istore (n := 0) F [(6, .int r_4), (5, .int r_2), (0, .ref b), (1, zr G 0), (2, zr G 116), (3, zr G 603), (4, .int (nI j))] dL_law__1881 (Nat.le_of_ble_eq_true rfl) rfl ?_
  refine z_aload_n F dL_law__1883 rfl 4 rfl ?_
  obtain ⟨r_6, v_5, hq1884, h⟩ := zbind_ex h
  refine z_callVi F [] [] (kX10_thrown x.2.1 G 116 t1 v_3 r_6 v_5 hq1884) mI_X10_thrown (c := 10) rfl t1 wM_L_144 mi_X10_thrown sl_X10_thrown dL_law__1884 rfl ⟨by omega, by omega⟩ rfl (Nat.le_of_ble_eq_true rfl) ⟨by omega, by omega⟩ ?_
  refine z_iload F dL_law__1887 1 rfl ?_
  refine z_icmp_eq F 1894 dL_law__1889 rfl (fun hc => ?_) (fun hc => ?_)
  · replace h := zif_t hc h
    refine z_iload F dL_law__1894 1 rfl ?_
    refine z_if_ne F 1911 dL_law__1896 rfl (fun hc => ?_) (fun hc => ?_)
    · replace h := zif_f hc h
      refine z_goto F 2917 dL_law__1911 rfl ?_
      cases h
      refine z_ls [(0, .ref b), (1, zr G 0), (2, zr G 116), (3, zr G 603), (4, .int (nI j))] [2, 3, 4, 5, 6] rfl ?_
      exact z_wide (cs' := cs + 5) (sl' := sl + 30) (by omega) (by omega) kk
    · replace h := zif_t hc h
      refine z_aload_n F dL_law__1899 rfl 5 rfl ?_
      refine z_iconst (y := (0 : Int32)) F dL_law__1900 rfl ?_
      obtain ⟨hi1901, h⟩ := zix_ex h
      refine z_lald F t3 dL_law__1901 hi1901 ?_
      refine z_iload F dL_law__1902 0 rfl ?_
      refine z_i2l F dL_law__1904 ?_
      refine z_lcmp F dL_law__1905 ?_
      refine z_if_eq F 1911 dL_law__1906 rfl (fun hc => ?_) (fun hc => ?_)
      · replace h := zif_t hc h
        refine z_goto F 2917 dL_law__1911 rfl ?_
        cases h
        refine z_ls [(0, .ref b), (1, zr G 0), (2, zr G 116), (3, zr G 603), (4, .int (nI j))] [2, 3, 4, 5, 6] rfl ?_
        exact z_wide (cs' := cs + 5) (sl' := sl + 30) (by omega) (by omega) kk
      · replace h := zif_f hc h
        exact absurd h (by intro q; cases q)
  · replace h := zif_f hc h
    exact absurd h (by intro q; cases q)

theorem dL_law__1914 : decode cL_law_ 1914 = .ok (.aload_n 1, 1) := by decide +kernel
theorem dL_law__1915 : decode cL_law_ 1915 = .ok (.aload_n 0, 1) := by decide +kernel
theorem dL_law__1916 : decode cL_law_ 1916 = .ok (.iload 4, 2) := by decide +kernel
theorem dL_law__1918 : decode cL_law_ 1918 = .ok (.iconst 1, 1) := by decide +kernel
theorem dL_law__1919 : decode cL_law_ 1919 = .ok (.iadd, 1) := by decide +kernel
theorem dL_law__1920 : decode cL_law_ 1920 = .ok (.iaload, 1) := by decide +kernel
theorem dL_law__1921 : decode cL_law_ 1921 = .ok (.aload_n 3, 1) := by decide +kernel
theorem dL_law__1922 : decode cL_law_ 1922 = .ok (.invokestatic 240, 3) := by decide +kernel
theorem dL_law__1925 : decode cL_law_ 1925 = .ok (.istore 5, 2) := by decide +kernel
theorem dL_law__1927 : decode cL_law_ 1927 = .ok (.aload_n 2, 1) := by decide +kernel
theorem dL_law__1928 : decode cL_law_ 1928 = .ok (.aload_n 0, 1) := by decide +kernel
theorem dL_law__1929 : decode cL_law_ 1929 = .ok (.iload 4, 2) := by decide +kernel
theorem dL_law__1931 : decode cL_law_ 1931 = .ok (.iconst 1, 1) := by decide +kernel
theorem dL_law__1932 : decode cL_law_ 1932 = .ok (.iadd, 1) := by decide +kernel
theorem dL_law__1933 : decode cL_law_ 1933 = .ok (.iaload, 1) := by decide +kernel
theorem dL_law__1934 : decode cL_law_ 1934 = .ok (.invokevirtual 242, 3) := by decide +kernel
theorem dL_law__1937 : decode cL_law_ 1937 = .ok (.istore 6, 2) := by decide +kernel
theorem dL_law__1939 : decode cL_law_ 1939 = .ok (.aload_n 2, 1) := by decide +kernel
theorem dL_law__1940 : decode cL_law_ 1940 = .ok (.invokevirtual 144, 3) := by decide +kernel
theorem dL_law__1943 : decode cL_law_ 1943 = .ok (.iload 5, 2) := by decide +kernel
theorem dL_law__1945 : decode cL_law_ 1945 = .ok (.if_icmp .eq 5, 3) := by decide +kernel
theorem dL_law__1948 : decode cL_law_ 1948 = .ok (.iconst 0, 1) := by decide +kernel
theorem dL_law__1949 : decode cL_law_ 1949 = .ok (.ireturn, 1) := by decide +kernel
theorem dL_law__1950 : decode cL_law_ 1950 = .ok (.iload 5, 2) := by decide +kernel
theorem dL_law__1952 : decode cL_law_ 1952 = .ok (.ifCond .ne 15, 3) := by decide +kernel
theorem dL_law__1955 : decode cL_law_ 1955 = .ok (.aload_n 3, 1) := by decide +kernel
theorem dL_law__1956 : decode cL_law_ 1956 = .ok (.iconst 0, 1) := by decide +kernel
theorem dL_law__1957 : decode cL_law_ 1957 = .ok (.laload, 1) := by decide +kernel
theorem dL_law__1958 : decode cL_law_ 1958 = .ok (.iload 6, 2) := by decide +kernel
theorem dL_law__1960 : decode cL_law_ 1960 = .ok (.i2l, 1) := by decide +kernel
theorem dL_law__1961 : decode cL_law_ 1961 = .ok (.lcmp, 1) := by decide +kernel
theorem dL_law__1962 : decode cL_law_ 1962 = .ok (.ifCond .eq 5, 3) := by decide +kernel
theorem dL_law__1965 : decode cL_law_ 1965 = .ok (.iconst 0, 1) := by decide +kernel
theorem dL_law__1966 : decode cL_law_ 1966 = .ok (.ireturn, 1) := by decide +kernel
theorem dL_law__1967 : decode cL_law_ 1967 = .ok (.goto 950, 3) := by decide +kernel
def fLc_30 (p1 : Int32) (v : zV) : Option zV :=
  zbind (fL_skip 0 p1 603 v) fun r_2 v_1 =>
  zbind (fX10_skip 116 p1 v_1) fun r_4 v_3 =>
  zbind (fX10_thrown 116 v_3) fun r_6 v_5 =>
  if r_6 = r_2 then
    if r_2 = (0 : Int32) then
      zix (0 : Int32) (zlen 603) <|
      if (lg_cmp ((v_5 603 (0 : Int32).toNatClampNeg).toInt64) ((r_4).toInt64)) = (0 : Int32) then
        some v_5
      else
        none
    else
      some v_5
  else
    none
set_option maxRecDepth 8000 in
set_option maxHeartbeats 1000000 in
theorem jLc_30 {x : zCx} {G : zG} {fr lo b L : Nat} {xs : Nat → Int32} {Q : State → Prop} (F : zF x G cL_law_ 7 RL fr lo) (hfr : 400 ≤ fr ∧ 20000 ≤ lo) (hfl : x.2.1.stackTraces = false) (hX : va_X b L xs x.2.2.2.2.1 x.2.2.2.2.1.heap) (hbl : b < x.2.2.2.2.1.heap.size) (hbA : ¬ zA G b) (t0 : zty G 0 1 9) (t1 : zty G 116 1 10) (t3 : zty G 603 2 2) {j : Nat} (hj : j + 7 ≤ L) (hL : L < 2 ^ 31) {cs sl : Nat} (hcs : cs + 5 ≤ x.2.2.2.1.cells ∧ sl + 30 ≤ x.2.2.2.1.slots) (v w : zV) (h : fLc_30 (xs (j + 1)) v = some w) (kk : zJ x G 7 Q (cs + 5) (sl + 30) 2917 [(0, .ref b), (1, zr G 0), (2, zr G 116), (3, zr G 603), (4, .int (nI j))] [] w) : zJ x G 7 Q cs sl 1914 [(0, .ref b), (1, zr G 0), (2, zr G 116), (3, zr G 603), (4, .int (nI j))] [] v := by
  obtain ⟨hfr1, hfr2⟩ := hfr
  obtain ⟨hcs1, hcs2⟩ := hcs
  unfold fLc_30 at h
  refine z_aload_n F dL_law__1914 rfl 1 rfl ?_
  refine z_aload_n F dL_law__1915 rfl 0 rfl ?_
  refine z_iload F dL_law__1916 4 rfl ?_
  refine z_iconst (y := (1 : Int32)) F dL_law__1918 rfl ?_
  refine z_iadd F dL_law__1919 ?_
  refine z_sld F hX hbl hbA (nI_add j 1) (by omega) hL dL_law__1920 ?_
  refine z_aload_n F dL_law__1921 rfl 3 rfl ?_
  obtain ⟨r_2, v_1, hq1922, h⟩ := zbind_ex h
  refine z_callSW (n := 3) F [zr G 0, .int (xs (j + 1)), zr G 603] [] (kL_skip x.2.1 G 0 t0 (xs (j + 1)) 603 t3 v r_2 v_1 hfl hq1922) kw_L_skip wM_L_240 ms_L_skip dL_law__1922 rfl (by decide +kernel) ⟨by omega, by omega⟩ rfl (Nat.le_of_ble_eq_true rfl) ⟨by omega, by omega⟩ ?_
  refine z_istore (n := 0) F [(5, .int r_2), (0, .ref b), (1, zr G 0), (2, zr G 116), (3, zr G 603), (4, .int (nI j))] dL_law__1925 (Nat.le_of_ble_eq_true rfl) rfl ?_
  refine z_aload_n F dL_law__1927 rfl 3 rfl ?_
  refine z_aload_n F dL_law__1928 rfl 1 rfl ?_
  refine z_iload F dL_law__1929 5 rfl ?_
  refine z_iconst (y := (1 : Int32)) F dL_law__1931 rfl ?_
  refine z_iadd F dL_law__1932 ?_
  refine z_sld F hX hbl hbA (nI_add j 1) (by omega) hL dL_law__1933 ?_
  obtain ⟨r_4, v_3, hq1934, h⟩ := zbind_ex h
  refine z_callVi F [.int (xs (j + 1))] [] (kX10_skip x.2.1 G 116 t1 (xs (j + 1)) v_1 r_4 v_3 hq1934) mI_X10_skip (c := 10) rfl t1 wM_L_242 mi_X10_skip sl_X10_skip dL_law__1934 rfl ⟨by omega, by omega⟩ rfl (Nat.le_of_ble_eq_true rfl) ⟨by omega, by omega⟩ ?_
  refine z_istore (n := 0) F [(6, .int r_4), (5, .int r_2), (0, .ref b), (1, zr G 0), (2, zr G 116), (3, zr G 603), (4, .int (nI j))] dL_law__1937 (Nat.le_of_ble_eq_true rfl) rfl ?_
  refine z_aload_n F dL_law__1939 rfl 4 rfl ?_
  obtain ⟨r_6, v_5, hq1940, h⟩ := zbind_ex h
  refine z_callVi F [] [] (kX10_thrown x.2.1 G 116 t1 v_3 r_6 v_5 hq1940) mI_X10_thrown (c := 10) rfl t1 wM_L_144 mi_X10_thrown sl_X10_thrown dL_law__1940 rfl ⟨by omega, by omega⟩ rfl (Nat.le_of_ble_eq_true rfl) ⟨by omega, by omega⟩ ?_
  refine z_iload F dL_law__1943 1 rfl ?_
  refine z_icmp_eq F 1950 dL_law__1945 rfl (fun hc => ?_) (fun hc => ?_)
  · replace h := zif_t hc h
    refine z_iload F dL_law__1950 1 rfl ?_
    refine z_if_ne F 1967 dL_law__1952 rfl (fun hc => ?_) (fun hc => ?_)
    · replace h := zif_f hc h
      refine z_goto F 2917 dL_law__1967 rfl ?_
      cases h
      refine z_ls [(0, .ref b), (1, zr G 0), (2, zr G 116), (3, zr G 603), (4, .int (nI j))] [2, 3, 4, 5, 6] rfl ?_
      exact z_wide (cs' := cs + 5) (sl' := sl + 30) (by omega) (by omega) kk
    · replace h := zif_t hc h
      refine z_aload_n F dL_law__1955 rfl 5 rfl ?_
      refine z_iconst (y := (0 : Int32)) F dL_law__1956 rfl ?_
      obtain ⟨hi1957, h⟩ := zix_ex h
      refine z_lald F t3 dL_law__1957 hi1957 ?_
      refine z_iload F dL_law__1958 0 rfl ?_
      refine z_i2l F dL_law__1960 ?_
      refine z_lcmp F dL_law__1961 ?_
      refine z_if_eq F 1967 dL_law__1962 rfl (fun hc => ?_) (fun hc => ?_)
      · replace h := zif_t hc h
        refine z_goto F 2917 dL_law__1967 rfl ?_
        cases h
        refine z_ls [(0, .ref b), (1, zr G 0), (2, zr G 116), (3, zr G 603), (4, .int (nI j))] [2, 3, 4, 5, 6] rfl ?_
        exact z_wide (cs' := cs + 5) (sl' := sl + 30) (by omega) (by omega) kk
      · replace h := zif_f hc h
        exact absurd h (by intro q; cases q)
  · replace h := zif_f hc h
    exact absurd h (by intro q; cases q)

theorem dL_law__1970 : decode cL_law_ 1970 = .ok (.aload_n 1, 1) := by decide +kernel
theorem dL_law__1971 : decode cL_law_ 1971 = .ok (.invokevirtual 243, 3) := by decide +kernel
theorem dL_law__1974 : decode cL_law_ 1974 = .ok (.aload_n 2, 1) := by decide +kernel
theorem dL_law__1975 : decode cL_law_ 1975 = .ok (.invokevirtual 246, 3) := by decide +kernel
theorem dL_law__1978 : decode cL_law_ 1978 = .ok (.if_icmp .eq 939, 3) := by decide +kernel
theorem dL_law__1981 : decode cL_law_ 1981 = .ok (.iconst 0, 1) := by decide +kernel
theorem dL_law__1982 : decode cL_law_ 1982 = .ok (.ireturn, 1) := by decide +kernel
def fLc_31 (v : zV) : Option zV :=
  zbind (fX9_middle 0 v) fun r_2 v_1 =>
  zbind (fX10_middle 116 v_1) fun r_4 v_3 =>
  if r_2 = r_4 then
    some v_3
  else
    none
set_option maxRecDepth 8000 in
set_option maxHeartbeats 1000000 in
theorem jLc_31 {x : zCx} {G : zG} {fr lo b L : Nat} {xs : Nat → Int32} {Q : State → Prop} (F : zF x G cL_law_ 7 RL fr lo) (hfr : 400 ≤ fr ∧ 20000 ≤ lo) (hfl : x.2.1.stackTraces = false) (hX : va_X b L xs x.2.2.2.2.1 x.2.2.2.2.1.heap) (hbl : b < x.2.2.2.2.1.heap.size) (hbA : ¬ zA G b) (t0 : zty G 0 1 9) (t1 : zty G 116 1 10) (t3 : zty G 603 2 2) {j : Nat} (hj : j + 7 ≤ L) (hL : L < 2 ^ 31) {cs sl : Nat} (hcs : cs + 5 ≤ x.2.2.2.1.cells ∧ sl + 30 ≤ x.2.2.2.1.slots) (v w : zV) (h : fLc_31 v = some w) (kk : zJ x G 7 Q (cs + 5) (sl + 30) 2917 [(0, .ref b), (1, zr G 0), (2, zr G 116), (3, zr G 603), (4, .int (nI j))] [] w) : zJ x G 7 Q cs sl 1970 [(0, .ref b), (1, zr G 0), (2, zr G 116), (3, zr G 603), (4, .int (nI j))] [] v := by
  obtain ⟨hfr1, hfr2⟩ := hfr
  obtain ⟨hcs1, hcs2⟩ := hcs
  unfold fLc_31 at h
  refine z_aload_n F dL_law__1970 rfl 1 rfl ?_
  obtain ⟨r_2, v_1, hq1971, h⟩ := zbind_ex h
  refine z_callVi F [] [] (kX9_middle x.2.1 G 0 t0 v r_2 v_1 hq1971) mI_X9_middle (c := 9) rfl t0 wM_L_243 mi_X9_middle sl_X9_middle dL_law__1971 rfl ⟨by omega, by omega⟩ rfl (Nat.le_of_ble_eq_true rfl) ⟨by omega, by omega⟩ ?_
  refine z_aload_n F dL_law__1974 rfl 2 rfl ?_
  obtain ⟨r_4, v_3, hq1975, h⟩ := zbind_ex h
  refine z_callVi F [] [.int r_2] (kX10_middle x.2.1 G 116 t1 v_1 r_4 v_3 hq1975) mI_X10_middle (c := 10) rfl t1 wM_L_246 mi_X10_middle sl_X10_middle dL_law__1975 rfl ⟨by omega, by omega⟩ rfl (Nat.le_of_ble_eq_true rfl) ⟨by omega, by omega⟩ ?_
  refine z_icmp_eq F 2917 dL_law__1978 rfl (fun hc => ?_) (fun hc => ?_)
  · replace h := zif_t hc h
    cases h
    refine z_ls [(0, .ref b), (1, zr G 0), (2, zr G 116), (3, zr G 603), (4, .int (nI j))] [0, 1, 2, 3, 4] rfl ?_
    exact z_wide (cs' := cs + 5) (sl' := sl + 30) (by omega) (by omega) kk
  · replace h := zif_f hc h
    exact absurd h (by intro q; cases q)

theorem dL_law__1983 : decode cL_law_ 1983 = .ok (.aload_n 1, 1) := by decide +kernel
theorem dL_law__1984 : decode cL_law_ 1984 = .ok (.aload_n 0, 1) := by decide +kernel
theorem dL_law__1985 : decode cL_law_ 1985 = .ok (.iload 4, 2) := by decide +kernel
theorem dL_law__1987 : decode cL_law_ 1987 = .ok (.iconst 1, 1) := by decide +kernel
theorem dL_law__1988 : decode cL_law_ 1988 = .ok (.iadd, 1) := by decide +kernel
theorem dL_law__1989 : decode cL_law_ 1989 = .ok (.iaload, 1) := by decide +kernel
theorem dL_law__1990 : decode cL_law_ 1990 = .ok (.aload_n 3, 1) := by decide +kernel
theorem dL_law__1991 : decode cL_law_ 1991 = .ok (.invokestatic 247, 3) := by decide +kernel
theorem dL_law__1994 : decode cL_law_ 1994 = .ok (.istore 5, 2) := by decide +kernel
theorem dL_law__1996 : decode cL_law_ 1996 = .ok (.aload_n 2, 1) := by decide +kernel
theorem dL_law__1997 : decode cL_law_ 1997 = .ok (.aload_n 0, 1) := by decide +kernel
theorem dL_law__1998 : decode cL_law_ 1998 = .ok (.iload 4, 2) := by decide +kernel
theorem dL_law__2000 : decode cL_law_ 2000 = .ok (.iconst 1, 1) := by decide +kernel
theorem dL_law__2001 : decode cL_law_ 2001 = .ok (.iadd, 1) := by decide +kernel
theorem dL_law__2002 : decode cL_law_ 2002 = .ok (.iaload, 1) := by decide +kernel
theorem dL_law__2003 : decode cL_law_ 2003 = .ok (.invokevirtual 249, 3) := by decide +kernel
theorem dL_law__2006 : decode cL_law_ 2006 = .ok (.istore 6, 2) := by decide +kernel
theorem dL_law__2008 : decode cL_law_ 2008 = .ok (.aload_n 2, 1) := by decide +kernel
theorem dL_law__2009 : decode cL_law_ 2009 = .ok (.invokevirtual 144, 3) := by decide +kernel
theorem dL_law__2012 : decode cL_law_ 2012 = .ok (.iload 5, 2) := by decide +kernel
theorem dL_law__2014 : decode cL_law_ 2014 = .ok (.if_icmp .eq 5, 3) := by decide +kernel
theorem dL_law__2017 : decode cL_law_ 2017 = .ok (.iconst 0, 1) := by decide +kernel
theorem dL_law__2018 : decode cL_law_ 2018 = .ok (.ireturn, 1) := by decide +kernel
theorem dL_law__2019 : decode cL_law_ 2019 = .ok (.iload 5, 2) := by decide +kernel
theorem dL_law__2021 : decode cL_law_ 2021 = .ok (.ifCond .ne 15, 3) := by decide +kernel
theorem dL_law__2024 : decode cL_law_ 2024 = .ok (.aload_n 3, 1) := by decide +kernel
theorem dL_law__2025 : decode cL_law_ 2025 = .ok (.iconst 0, 1) := by decide +kernel
theorem dL_law__2026 : decode cL_law_ 2026 = .ok (.laload, 1) := by decide +kernel
theorem dL_law__2027 : decode cL_law_ 2027 = .ok (.iload 6, 2) := by decide +kernel
theorem dL_law__2029 : decode cL_law_ 2029 = .ok (.i2l, 1) := by decide +kernel
theorem dL_law__2030 : decode cL_law_ 2030 = .ok (.lcmp, 1) := by decide +kernel
theorem dL_law__2031 : decode cL_law_ 2031 = .ok (.ifCond .eq 5, 3) := by decide +kernel
theorem dL_law__2034 : decode cL_law_ 2034 = .ok (.iconst 0, 1) := by decide +kernel
theorem dL_law__2035 : decode cL_law_ 2035 = .ok (.ireturn, 1) := by decide +kernel
theorem dL_law__2036 : decode cL_law_ 2036 = .ok (.goto 881, 3) := by decide +kernel
def fLc_32 (p1 : Int32) (v : zV) : Option zV :=
  zbind (fL_flip 0 p1 603 v) fun r_2 v_1 =>
  zbind (fX10_flip 116 p1 v_1) fun r_4 v_3 =>
  zbind (fX10_thrown 116 v_3) fun r_6 v_5 =>
  if r_6 = r_2 then
    if r_2 = (0 : Int32) then
      zix (0 : Int32) (zlen 603) <|
      if (lg_cmp ((v_5 603 (0 : Int32).toNatClampNeg).toInt64) ((r_4).toInt64)) = (0 : Int32) then
        some v_5
      else
        none
    else
      some v_5
  else
    none
set_option maxRecDepth 8000 in
set_option maxHeartbeats 1000000 in
theorem jLc_32 {x : zCx} {G : zG} {fr lo b L : Nat} {xs : Nat → Int32} {Q : State → Prop} (F : zF x G cL_law_ 7 RL fr lo) (hfr : 400 ≤ fr ∧ 20000 ≤ lo) (hfl : x.2.1.stackTraces = false) (hX : va_X b L xs x.2.2.2.2.1 x.2.2.2.2.1.heap) (hbl : b < x.2.2.2.2.1.heap.size) (hbA : ¬ zA G b) (t0 : zty G 0 1 9) (t1 : zty G 116 1 10) (t3 : zty G 603 2 2) {j : Nat} (hj : j + 7 ≤ L) (hL : L < 2 ^ 31) {cs sl : Nat} (hcs : cs + 5 ≤ x.2.2.2.1.cells ∧ sl + 30 ≤ x.2.2.2.1.slots) (v w : zV) (h : fLc_32 (xs (j + 1)) v = some w) (kk : zJ x G 7 Q (cs + 5) (sl + 30) 2917 [(0, .ref b), (1, zr G 0), (2, zr G 116), (3, zr G 603), (4, .int (nI j))] [] w) : zJ x G 7 Q cs sl 1983 [(0, .ref b), (1, zr G 0), (2, zr G 116), (3, zr G 603), (4, .int (nI j))] [] v := by
  obtain ⟨hfr1, hfr2⟩ := hfr
  obtain ⟨hcs1, hcs2⟩ := hcs
  unfold fLc_32 at h
  refine z_aload_n F dL_law__1983 rfl 1 rfl ?_
  refine z_aload_n F dL_law__1984 rfl 0 rfl ?_
  refine z_iload F dL_law__1985 4 rfl ?_
  refine z_iconst (y := (1 : Int32)) F dL_law__1987 rfl ?_
  refine z_iadd F dL_law__1988 ?_
  refine z_sld F hX hbl hbA (nI_add j 1) (by omega) hL dL_law__1989 ?_
  refine z_aload_n F dL_law__1990 rfl 3 rfl ?_
  obtain ⟨r_2, v_1, hq1991, h⟩ := zbind_ex h
  refine z_callSW (n := 3) F [zr G 0, .int (xs (j + 1)), zr G 603] [] (kL_flip x.2.1 G 0 t0 (xs (j + 1)) 603 t3 v r_2 v_1 hfl hq1991) kw_L_flip wM_L_247 ms_L_flip dL_law__1991 rfl (by decide +kernel) ⟨by omega, by omega⟩ rfl (Nat.le_of_ble_eq_true rfl) ⟨by omega, by omega⟩ ?_
  refine z_istore (n := 0) F [(5, .int r_2), (0, .ref b), (1, zr G 0), (2, zr G 116), (3, zr G 603), (4, .int (nI j))] dL_law__1994 (Nat.le_of_ble_eq_true rfl) rfl ?_
  refine z_aload_n F dL_law__1996 rfl 3 rfl ?_
  refine z_aload_n F dL_law__1997 rfl 1 rfl ?_
  refine z_iload F dL_law__1998 5 rfl ?_
  refine z_iconst (y := (1 : Int32)) F dL_law__2000 rfl ?_
  refine z_iadd F dL_law__2001 ?_
  refine z_sld F hX hbl hbA (nI_add j 1) (by omega) hL dL_law__2002 ?_
  obtain ⟨r_4, v_3, hq2003, h⟩ := zbind_ex h
  refine z_callVi F [.int (xs (j + 1))] [] (kX10_flip x.2.1 G 116 t1 (xs (j + 1)) v_1 r_4 v_3 hq2003) mI_X10_flip (c := 10) rfl t1 wM_L_249 mi_X10_flip sl_X10_flip dL_law__2003 rfl ⟨by omega, by omega⟩ rfl (Nat.le_of_ble_eq_true rfl) ⟨by omega, by omega⟩ ?_
  refine z_istore (n := 0) F [(6, .int r_4), (5, .int r_2), (0, .ref b), (1, zr G 0), (2, zr G 116), (3, zr G 603), (4, .int (nI j))] dL_law__2006 (Nat.le_of_ble_eq_true rfl) rfl ?_
  refine z_aload_n F dL_law__2008 rfl 4 rfl ?_
  obtain ⟨r_6, v_5, hq2009, h⟩ := zbind_ex h
  refine z_callVi F [] [] (kX10_thrown x.2.1 G 116 t1 v_3 r_6 v_5 hq2009) mI_X10_thrown (c := 10) rfl t1 wM_L_144 mi_X10_thrown sl_X10_thrown dL_law__2009 rfl ⟨by omega, by omega⟩ rfl (Nat.le_of_ble_eq_true rfl) ⟨by omega, by omega⟩ ?_
  refine z_iload F dL_law__2012 1 rfl ?_
  refine z_icmp_eq F 2019 dL_law__2014 rfl (fun hc => ?_) (fun hc => ?_)
  · replace h := zif_t hc h
    refine z_iload F dL_law__2019 1 rfl ?_
    refine z_if_ne F 2036 dL_law__2021 rfl (fun hc => ?_) (fun hc => ?_)
    · replace h := zif_f hc h
      refine z_goto F 2917 dL_law__2036 rfl ?_
      cases h
      refine z_ls [(0, .ref b), (1, zr G 0), (2, zr G 116), (3, zr G 603), (4, .int (nI j))] [2, 3, 4, 5, 6] rfl ?_
      exact z_wide (cs' := cs + 5) (sl' := sl + 30) (by omega) (by omega) kk
    · replace h := zif_t hc h
      refine z_aload_n F dL_law__2024 rfl 5 rfl ?_
      refine z_iconst (y := (0 : Int32)) F dL_law__2025 rfl ?_
      obtain ⟨hi2026, h⟩ := zix_ex h
      refine z_lald F t3 dL_law__2026 hi2026 ?_
      refine z_iload F dL_law__2027 0 rfl ?_
      refine z_i2l F dL_law__2029 ?_
      refine z_lcmp F dL_law__2030 ?_
      refine z_if_eq F 2036 dL_law__2031 rfl (fun hc => ?_) (fun hc => ?_)
      · replace h := zif_t hc h
        refine z_goto F 2917 dL_law__2036 rfl ?_
        cases h
        refine z_ls [(0, .ref b), (1, zr G 0), (2, zr G 116), (3, zr G 603), (4, .int (nI j))] [2, 3, 4, 5, 6] rfl ?_
        exact z_wide (cs' := cs + 5) (sl' := sl + 30) (by omega) (by omega) kk
      · replace h := zif_f hc h
        exact absurd h (by intro q; cases q)
  · replace h := zif_f hc h
    exact absurd h (by intro q; cases q)

theorem dL_law__2039 : decode cL_law_ 2039 = .ok (.aload_n 1, 1) := by decide +kernel
theorem dL_law__2040 : decode cL_law_ 2040 = .ok (.aload_n 0, 1) := by decide +kernel
theorem dL_law__2041 : decode cL_law_ 2041 = .ok (.iload 4, 2) := by decide +kernel
theorem dL_law__2043 : decode cL_law_ 2043 = .ok (.iconst 1, 1) := by decide +kernel
theorem dL_law__2044 : decode cL_law_ 2044 = .ok (.iadd, 1) := by decide +kernel
theorem dL_law__2045 : decode cL_law_ 2045 = .ok (.iaload, 1) := by decide +kernel
theorem dL_law__2046 : decode cL_law_ 2046 = .ok (.aload_n 0, 1) := by decide +kernel
theorem dL_law__2047 : decode cL_law_ 2047 = .ok (.iload 4, 2) := by decide +kernel
theorem dL_law__2049 : decode cL_law_ 2049 = .ok (.iconst 2, 1) := by decide +kernel
theorem dL_law__2050 : decode cL_law_ 2050 = .ok (.iadd, 1) := by decide +kernel
theorem dL_law__2051 : decode cL_law_ 2051 = .ok (.iaload, 1) := by decide +kernel
theorem dL_law__2052 : decode cL_law_ 2052 = .ok (.aload_n 0, 1) := by decide +kernel
theorem dL_law__2053 : decode cL_law_ 2053 = .ok (.iload 4, 2) := by decide +kernel
theorem dL_law__2055 : decode cL_law_ 2055 = .ok (.iconst 3, 1) := by decide +kernel
theorem dL_law__2056 : decode cL_law_ 2056 = .ok (.iadd, 1) := by decide +kernel
theorem dL_law__2057 : decode cL_law_ 2057 = .ok (.iaload, 1) := by decide +kernel
theorem dL_law__2058 : decode cL_law_ 2058 = .ok (.aload_n 0, 1) := by decide +kernel
theorem dL_law__2059 : decode cL_law_ 2059 = .ok (.iload 4, 2) := by decide +kernel
theorem dL_law__2061 : decode cL_law_ 2061 = .ok (.iconst 4, 1) := by decide +kernel
theorem dL_law__2062 : decode cL_law_ 2062 = .ok (.iadd, 1) := by decide +kernel
theorem dL_law__2063 : decode cL_law_ 2063 = .ok (.iaload, 1) := by decide +kernel
theorem dL_law__2064 : decode cL_law_ 2064 = .ok (.aload_n 3, 1) := by decide +kernel
theorem dL_law__2065 : decode cL_law_ 2065 = .ok (.invokestatic 250, 3) := by decide +kernel
theorem dL_law__2068 : decode cL_law_ 2068 = .ok (.istore 5, 2) := by decide +kernel
theorem dL_law__2070 : decode cL_law_ 2070 = .ok (.aload_n 2, 1) := by decide +kernel
theorem dL_law__2071 : decode cL_law_ 2071 = .ok (.aload_n 0, 1) := by decide +kernel
theorem dL_law__2072 : decode cL_law_ 2072 = .ok (.iload 4, 2) := by decide +kernel
theorem dL_law__2074 : decode cL_law_ 2074 = .ok (.iconst 1, 1) := by decide +kernel
theorem dL_law__2075 : decode cL_law_ 2075 = .ok (.iadd, 1) := by decide +kernel
theorem dL_law__2076 : decode cL_law_ 2076 = .ok (.iaload, 1) := by decide +kernel
theorem dL_law__2077 : decode cL_law_ 2077 = .ok (.aload_n 0, 1) := by decide +kernel
theorem dL_law__2078 : decode cL_law_ 2078 = .ok (.iload 4, 2) := by decide +kernel
theorem dL_law__2080 : decode cL_law_ 2080 = .ok (.iconst 2, 1) := by decide +kernel
theorem dL_law__2081 : decode cL_law_ 2081 = .ok (.iadd, 1) := by decide +kernel
theorem dL_law__2082 : decode cL_law_ 2082 = .ok (.iaload, 1) := by decide +kernel
theorem dL_law__2083 : decode cL_law_ 2083 = .ok (.aload_n 0, 1) := by decide +kernel
theorem dL_law__2084 : decode cL_law_ 2084 = .ok (.iload 4, 2) := by decide +kernel
theorem dL_law__2086 : decode cL_law_ 2086 = .ok (.iconst 3, 1) := by decide +kernel
theorem dL_law__2087 : decode cL_law_ 2087 = .ok (.iadd, 1) := by decide +kernel
theorem dL_law__2088 : decode cL_law_ 2088 = .ok (.iaload, 1) := by decide +kernel
theorem dL_law__2089 : decode cL_law_ 2089 = .ok (.aload_n 0, 1) := by decide +kernel
theorem dL_law__2090 : decode cL_law_ 2090 = .ok (.iload 4, 2) := by decide +kernel
theorem dL_law__2092 : decode cL_law_ 2092 = .ok (.iconst 4, 1) := by decide +kernel
theorem dL_law__2093 : decode cL_law_ 2093 = .ok (.iadd, 1) := by decide +kernel
theorem dL_law__2094 : decode cL_law_ 2094 = .ok (.iaload, 1) := by decide +kernel
theorem dL_law__2095 : decode cL_law_ 2095 = .ok (.invokevirtual 252, 3) := by decide +kernel
theorem dL_law__2098 : decode cL_law_ 2098 = .ok (.istore 6, 2) := by decide +kernel
theorem dL_law__2100 : decode cL_law_ 2100 = .ok (.aload_n 2, 1) := by decide +kernel
theorem dL_law__2101 : decode cL_law_ 2101 = .ok (.invokevirtual 144, 3) := by decide +kernel
theorem dL_law__2104 : decode cL_law_ 2104 = .ok (.iload 5, 2) := by decide +kernel
theorem dL_law__2106 : decode cL_law_ 2106 = .ok (.if_icmp .eq 5, 3) := by decide +kernel
theorem dL_law__2109 : decode cL_law_ 2109 = .ok (.iconst 0, 1) := by decide +kernel
theorem dL_law__2110 : decode cL_law_ 2110 = .ok (.ireturn, 1) := by decide +kernel
theorem dL_law__2111 : decode cL_law_ 2111 = .ok (.iload 5, 2) := by decide +kernel
theorem dL_law__2113 : decode cL_law_ 2113 = .ok (.ifCond .ne 15, 3) := by decide +kernel
theorem dL_law__2116 : decode cL_law_ 2116 = .ok (.aload_n 3, 1) := by decide +kernel
theorem dL_law__2117 : decode cL_law_ 2117 = .ok (.iconst 0, 1) := by decide +kernel
theorem dL_law__2118 : decode cL_law_ 2118 = .ok (.laload, 1) := by decide +kernel
theorem dL_law__2119 : decode cL_law_ 2119 = .ok (.iload 6, 2) := by decide +kernel
theorem dL_law__2121 : decode cL_law_ 2121 = .ok (.i2l, 1) := by decide +kernel
theorem dL_law__2122 : decode cL_law_ 2122 = .ok (.lcmp, 1) := by decide +kernel
theorem dL_law__2123 : decode cL_law_ 2123 = .ok (.ifCond .eq 5, 3) := by decide +kernel
theorem dL_law__2126 : decode cL_law_ 2126 = .ok (.iconst 0, 1) := by decide +kernel
theorem dL_law__2127 : decode cL_law_ 2127 = .ok (.ireturn, 1) := by decide +kernel
theorem dL_law__2128 : decode cL_law_ 2128 = .ok (.goto 789, 3) := by decide +kernel
def fLc_33 (p1 : Int32) (p2 : Int32) (p3 : Int32) (p4 : Int32) (v : zV) : Option zV :=
  zbind (fL_patrons 0 p1 p2 p3 p4 603 v) fun r_2 v_1 =>
  zbind (fX10_patrons 116 p1 p2 p3 p4 v_1) fun r_4 v_3 =>
  zbind (fX10_thrown 116 v_3) fun r_6 v_5 =>
  if r_6 = r_2 then
    if r_2 = (0 : Int32) then
      zix (0 : Int32) (zlen 603) <|
      if (lg_cmp ((v_5 603 (0 : Int32).toNatClampNeg).toInt64) ((r_4).toInt64)) = (0 : Int32) then
        some v_5
      else
        none
    else
      some v_5
  else
    none
set_option maxRecDepth 8000 in
set_option maxHeartbeats 1000000 in
theorem jLc_33 {x : zCx} {G : zG} {fr lo b L : Nat} {xs : Nat → Int32} {Q : State → Prop} (F : zF x G cL_law_ 7 RL fr lo) (hfr : 400 ≤ fr ∧ 20000 ≤ lo) (hfl : x.2.1.stackTraces = false) (hX : va_X b L xs x.2.2.2.2.1 x.2.2.2.2.1.heap) (hbl : b < x.2.2.2.2.1.heap.size) (hbA : ¬ zA G b) (t0 : zty G 0 1 9) (t1 : zty G 116 1 10) (t3 : zty G 603 2 2) {j : Nat} (hj : j + 7 ≤ L) (hL : L < 2 ^ 31) {cs sl : Nat} (hcs : cs + 5 ≤ x.2.2.2.1.cells ∧ sl + 30 ≤ x.2.2.2.1.slots) (v w : zV) (h : fLc_33 (xs (j + 1)) (xs (j + 2)) (xs (j + 3)) (xs (j + 4)) v = some w) (kk : zJ x G 7 Q (cs + 5) (sl + 30) 2917 [(0, .ref b), (1, zr G 0), (2, zr G 116), (3, zr G 603), (4, .int (nI j))] [] w) : zJ x G 7 Q cs sl 2039 [(0, .ref b), (1, zr G 0), (2, zr G 116), (3, zr G 603), (4, .int (nI j))] [] v := by
  obtain ⟨hfr1, hfr2⟩ := hfr
  obtain ⟨hcs1, hcs2⟩ := hcs
  unfold fLc_33 at h
  refine z_aload_n F dL_law__2039 rfl 1 rfl ?_
  refine z_aload_n F dL_law__2040 rfl 0 rfl ?_
  refine z_iload F dL_law__2041 4 rfl ?_
  refine z_iconst (y := (1 : Int32)) F dL_law__2043 rfl ?_
  refine z_iadd F dL_law__2044 ?_
  refine z_sld F hX hbl hbA (nI_add j 1) (by omega) hL dL_law__2045 ?_
  refine z_aload_n F dL_law__2046 rfl 0 rfl ?_
  refine z_iload F dL_law__2047 4 rfl ?_
  refine z_iconst (y := (2 : Int32)) F dL_law__2049 rfl ?_
  refine z_iadd F dL_law__2050 ?_
  refine z_sld F hX hbl hbA (nI_add j 2) (by omega) hL dL_law__2051 ?_
  refine z_aload_n F dL_law__2052 rfl 0 rfl ?_
  refine z_iload F dL_law__2053 4 rfl ?_
  refine z_iconst (y := (3 : Int32)) F dL_law__2055 rfl ?_
  refine z_iadd F dL_law__2056 ?_
  refine z_sld F hX hbl hbA (nI_add j 3) (by omega) hL dL_law__2057 ?_
  refine z_aload_n F dL_law__2058 rfl 0 rfl ?_
  refine z_iload F dL_law__2059 4 rfl ?_
  refine z_iconst (y := (4 : Int32)) F dL_law__2061 rfl ?_
  refine z_iadd F dL_law__2062 ?_
  refine z_sld F hX hbl hbA (nI_add j 4) (by omega) hL dL_law__2063 ?_
  refine z_aload_n F dL_law__2064 rfl 3 rfl ?_
  obtain ⟨r_2, v_1, hq2065, h⟩ := zbind_ex h
  refine z_callSW (n := 6) F [zr G 0, .int (xs (j + 1)), .int (xs (j + 2)), .int (xs (j + 3)), .int (xs (j + 4)), zr G 603] [] (kL_patrons x.2.1 G 0 t0 (xs (j + 1)) (xs (j + 2)) (xs (j + 3)) (xs (j + 4)) 603 t3 v r_2 v_1 hfl hq2065) kw_L_patrons wM_L_250 ms_L_patrons dL_law__2065 rfl (by decide +kernel) ⟨by omega, by omega⟩ rfl (Nat.le_of_ble_eq_true rfl) ⟨by omega, by omega⟩ ?_
  refine z_istore (n := 0) F [(5, .int r_2), (0, .ref b), (1, zr G 0), (2, zr G 116), (3, zr G 603), (4, .int (nI j))] dL_law__2068 (Nat.le_of_ble_eq_true rfl) rfl ?_
  refine z_aload_n F dL_law__2070 rfl 3 rfl ?_
  refine z_aload_n F dL_law__2071 rfl 1 rfl ?_
  refine z_iload F dL_law__2072 5 rfl ?_
  refine z_iconst (y := (1 : Int32)) F dL_law__2074 rfl ?_
  refine z_iadd F dL_law__2075 ?_
  refine z_sld F hX hbl hbA (nI_add j 1) (by omega) hL dL_law__2076 ?_
  refine z_aload_n F dL_law__2077 rfl 1 rfl ?_
  refine z_iload F dL_law__2078 5 rfl ?_
  refine z_iconst (y := (2 : Int32)) F dL_law__2080 rfl ?_
  refine z_iadd F dL_law__2081 ?_
  refine z_sld F hX hbl hbA (nI_add j 2) (by omega) hL dL_law__2082 ?_
  refine z_aload_n F dL_law__2083 rfl 1 rfl ?_
  refine z_iload F dL_law__2084 5 rfl ?_
  refine z_iconst (y := (3 : Int32)) F dL_law__2086 rfl ?_
  refine z_iadd F dL_law__2087 ?_
  refine z_sld F hX hbl hbA (nI_add j 3) (by omega) hL dL_law__2088 ?_
  refine z_aload_n F dL_law__2089 rfl 1 rfl ?_
  refine z_iload F dL_law__2090 5 rfl ?_
  refine z_iconst (y := (4 : Int32)) F dL_law__2092 rfl ?_
  refine z_iadd F dL_law__2093 ?_
  refine z_sld F hX hbl hbA (nI_add j 4) (by omega) hL dL_law__2094 ?_
  obtain ⟨r_4, v_3, hq2095, h⟩ := zbind_ex h
  refine z_callVi F [.int (xs (j + 1)), .int (xs (j + 2)), .int (xs (j + 3)), .int (xs (j + 4))] [] (kX10_patrons x.2.1 G 116 t1 (xs (j + 1)) (xs (j + 2)) (xs (j + 3)) (xs (j + 4)) v_1 r_4 v_3 hq2095) mI_X10_patrons (c := 10) rfl t1 wM_L_252 mi_X10_patrons sl_X10_patrons dL_law__2095 rfl ⟨by omega, by omega⟩ rfl (Nat.le_of_ble_eq_true rfl) ⟨by omega, by omega⟩ ?_
  refine z_istore (n := 0) F [(6, .int r_4), (5, .int r_2), (0, .ref b), (1, zr G 0), (2, zr G 116), (3, zr G 603), (4, .int (nI j))] dL_law__2098 (Nat.le_of_ble_eq_true rfl) rfl ?_
  refine z_aload_n F dL_law__2100 rfl 4 rfl ?_
  obtain ⟨r_6, v_5, hq2101, h⟩ := zbind_ex h
  refine z_callVi F [] [] (kX10_thrown x.2.1 G 116 t1 v_3 r_6 v_5 hq2101) mI_X10_thrown (c := 10) rfl t1 wM_L_144 mi_X10_thrown sl_X10_thrown dL_law__2101 rfl ⟨by omega, by omega⟩ rfl (Nat.le_of_ble_eq_true rfl) ⟨by omega, by omega⟩ ?_
  refine z_iload F dL_law__2104 1 rfl ?_
  refine z_icmp_eq F 2111 dL_law__2106 rfl (fun hc => ?_) (fun hc => ?_)
  · replace h := zif_t hc h
    refine z_iload F dL_law__2111 1 rfl ?_
    refine z_if_ne F 2128 dL_law__2113 rfl (fun hc => ?_) (fun hc => ?_)
    · replace h := zif_f hc h
      refine z_goto F 2917 dL_law__2128 rfl ?_
      cases h
      refine z_ls [(0, .ref b), (1, zr G 0), (2, zr G 116), (3, zr G 603), (4, .int (nI j))] [2, 3, 4, 5, 6] rfl ?_
      exact z_wide (cs' := cs + 5) (sl' := sl + 30) (by omega) (by omega) kk
    · replace h := zif_t hc h
      refine z_aload_n F dL_law__2116 rfl 5 rfl ?_
      refine z_iconst (y := (0 : Int32)) F dL_law__2117 rfl ?_
      obtain ⟨hi2118, h⟩ := zix_ex h
      refine z_lald F t3 dL_law__2118 hi2118 ?_
      refine z_iload F dL_law__2119 0 rfl ?_
      refine z_i2l F dL_law__2121 ?_
      refine z_lcmp F dL_law__2122 ?_
      refine z_if_eq F 2128 dL_law__2123 rfl (fun hc => ?_) (fun hc => ?_)
      · replace h := zif_t hc h
        refine z_goto F 2917 dL_law__2128 rfl ?_
        cases h
        refine z_ls [(0, .ref b), (1, zr G 0), (2, zr G 116), (3, zr G 603), (4, .int (nI j))] [2, 3, 4, 5, 6] rfl ?_
        exact z_wide (cs' := cs + 5) (sl' := sl + 30) (by omega) (by omega) kk
      · replace h := zif_f hc h
        exact absurd h (by intro q; cases q)
  · replace h := zif_f hc h
    exact absurd h (by intro q; cases q)

theorem dL_law__2131 : decode cL_law_ 2131 = .ok (.aload_n 1, 1) := by decide +kernel
theorem dL_law__2132 : decode cL_law_ 2132 = .ok (.aload_n 0, 1) := by decide +kernel
theorem dL_law__2133 : decode cL_law_ 2133 = .ok (.iload 4, 2) := by decide +kernel
theorem dL_law__2135 : decode cL_law_ 2135 = .ok (.iconst 1, 1) := by decide +kernel
theorem dL_law__2136 : decode cL_law_ 2136 = .ok (.iadd, 1) := by decide +kernel
theorem dL_law__2137 : decode cL_law_ 2137 = .ok (.iaload, 1) := by decide +kernel
theorem dL_law__2138 : decode cL_law_ 2138 = .ok (.aload_n 3, 1) := by decide +kernel
theorem dL_law__2139 : decode cL_law_ 2139 = .ok (.invokestatic 253, 3) := by decide +kernel
theorem dL_law__2142 : decode cL_law_ 2142 = .ok (.istore 5, 2) := by decide +kernel
theorem dL_law__2144 : decode cL_law_ 2144 = .ok (.aload_n 2, 1) := by decide +kernel
theorem dL_law__2145 : decode cL_law_ 2145 = .ok (.aload_n 0, 1) := by decide +kernel
theorem dL_law__2146 : decode cL_law_ 2146 = .ok (.iload 4, 2) := by decide +kernel
theorem dL_law__2148 : decode cL_law_ 2148 = .ok (.iconst 1, 1) := by decide +kernel
theorem dL_law__2149 : decode cL_law_ 2149 = .ok (.iadd, 1) := by decide +kernel
theorem dL_law__2150 : decode cL_law_ 2150 = .ok (.iaload, 1) := by decide +kernel
theorem dL_law__2151 : decode cL_law_ 2151 = .ok (.invokevirtual 255, 3) := by decide +kernel
theorem dL_law__2154 : decode cL_law_ 2154 = .ok (.istore 6, 2) := by decide +kernel
theorem dL_law__2156 : decode cL_law_ 2156 = .ok (.aload_n 2, 1) := by decide +kernel
theorem dL_law__2157 : decode cL_law_ 2157 = .ok (.invokevirtual 144, 3) := by decide +kernel
theorem dL_law__2160 : decode cL_law_ 2160 = .ok (.iload 5, 2) := by decide +kernel
theorem dL_law__2162 : decode cL_law_ 2162 = .ok (.if_icmp .eq 5, 3) := by decide +kernel
theorem dL_law__2165 : decode cL_law_ 2165 = .ok (.iconst 0, 1) := by decide +kernel
theorem dL_law__2166 : decode cL_law_ 2166 = .ok (.ireturn, 1) := by decide +kernel
theorem dL_law__2167 : decode cL_law_ 2167 = .ok (.iload 5, 2) := by decide +kernel
theorem dL_law__2169 : decode cL_law_ 2169 = .ok (.ifCond .ne 15, 3) := by decide +kernel
theorem dL_law__2172 : decode cL_law_ 2172 = .ok (.aload_n 3, 1) := by decide +kernel
theorem dL_law__2173 : decode cL_law_ 2173 = .ok (.iconst 0, 1) := by decide +kernel
theorem dL_law__2174 : decode cL_law_ 2174 = .ok (.laload, 1) := by decide +kernel
theorem dL_law__2175 : decode cL_law_ 2175 = .ok (.iload 6, 2) := by decide +kernel
theorem dL_law__2177 : decode cL_law_ 2177 = .ok (.i2l, 1) := by decide +kernel
theorem dL_law__2178 : decode cL_law_ 2178 = .ok (.lcmp, 1) := by decide +kernel
theorem dL_law__2179 : decode cL_law_ 2179 = .ok (.ifCond .eq 5, 3) := by decide +kernel
theorem dL_law__2182 : decode cL_law_ 2182 = .ok (.iconst 0, 1) := by decide +kernel
theorem dL_law__2183 : decode cL_law_ 2183 = .ok (.ireturn, 1) := by decide +kernel
theorem dL_law__2184 : decode cL_law_ 2184 = .ok (.goto 733, 3) := by decide +kernel
def fLc_34 (p1 : Int32) (v : zV) : Option zV :=
  zbind (fL_allies 0 p1 603 v) fun r_2 v_1 =>
  zbind (fX10_allies 116 p1 v_1) fun r_4 v_3 =>
  zbind (fX10_thrown 116 v_3) fun r_6 v_5 =>
  if r_6 = r_2 then
    if r_2 = (0 : Int32) then
      zix (0 : Int32) (zlen 603) <|
      if (lg_cmp ((v_5 603 (0 : Int32).toNatClampNeg).toInt64) ((r_4).toInt64)) = (0 : Int32) then
        some v_5
      else
        none
    else
      some v_5
  else
    none
set_option maxRecDepth 8000 in
set_option maxHeartbeats 1000000 in
theorem jLc_34 {x : zCx} {G : zG} {fr lo b L : Nat} {xs : Nat → Int32} {Q : State → Prop} (F : zF x G cL_law_ 7 RL fr lo) (hfr : 400 ≤ fr ∧ 20000 ≤ lo) (hfl : x.2.1.stackTraces = false) (hX : va_X b L xs x.2.2.2.2.1 x.2.2.2.2.1.heap) (hbl : b < x.2.2.2.2.1.heap.size) (hbA : ¬ zA G b) (t0 : zty G 0 1 9) (t1 : zty G 116 1 10) (t3 : zty G 603 2 2) {j : Nat} (hj : j + 7 ≤ L) (hL : L < 2 ^ 31) {cs sl : Nat} (hcs : cs + 5 ≤ x.2.2.2.1.cells ∧ sl + 30 ≤ x.2.2.2.1.slots) (v w : zV) (h : fLc_34 (xs (j + 1)) v = some w) (kk : zJ x G 7 Q (cs + 5) (sl + 30) 2917 [(0, .ref b), (1, zr G 0), (2, zr G 116), (3, zr G 603), (4, .int (nI j))] [] w) : zJ x G 7 Q cs sl 2131 [(0, .ref b), (1, zr G 0), (2, zr G 116), (3, zr G 603), (4, .int (nI j))] [] v := by
  obtain ⟨hfr1, hfr2⟩ := hfr
  obtain ⟨hcs1, hcs2⟩ := hcs
  unfold fLc_34 at h
  refine z_aload_n F dL_law__2131 rfl 1 rfl ?_
  refine z_aload_n F dL_law__2132 rfl 0 rfl ?_
  refine z_iload F dL_law__2133 4 rfl ?_
  refine z_iconst (y := (1 : Int32)) F dL_law__2135 rfl ?_
  refine z_iadd F dL_law__2136 ?_
  refine z_sld F hX hbl hbA (nI_add j 1) (by omega) hL dL_law__2137 ?_
  refine z_aload_n F dL_law__2138 rfl 3 rfl ?_
  obtain ⟨r_2, v_1, hq2139, h⟩ := zbind_ex h
  refine z_callSW (n := 3) F [zr G 0, .int (xs (j + 1)), zr G 603] [] (kL_allies x.2.1 G 0 t0 (xs (j + 1)) 603 t3 v r_2 v_1 hfl hq2139) kw_L_allies wM_L_253 ms_L_allies dL_law__2139 rfl (by decide +kernel) ⟨by omega, by omega⟩ rfl (Nat.le_of_ble_eq_true rfl) ⟨by omega, by omega⟩ ?_
  refine z_istore (n := 0) F [(5, .int r_2), (0, .ref b), (1, zr G 0), (2, zr G 116), (3, zr G 603), (4, .int (nI j))] dL_law__2142 (Nat.le_of_ble_eq_true rfl) rfl ?_
  refine z_aload_n F dL_law__2144 rfl 3 rfl ?_
  refine z_aload_n F dL_law__2145 rfl 1 rfl ?_
  refine z_iload F dL_law__2146 5 rfl ?_
  refine z_iconst (y := (1 : Int32)) F dL_law__2148 rfl ?_
  refine z_iadd F dL_law__2149 ?_
  refine z_sld F hX hbl hbA (nI_add j 1) (by omega) hL dL_law__2150 ?_
  obtain ⟨r_4, v_3, hq2151, h⟩ := zbind_ex h
  refine z_callVi F [.int (xs (j + 1))] [] (kX10_allies x.2.1 G 116 t1 (xs (j + 1)) v_1 r_4 v_3 hq2151) mI_X10_allies (c := 10) rfl t1 wM_L_255 mi_X10_allies sl_X10_allies dL_law__2151 rfl ⟨by omega, by omega⟩ rfl (Nat.le_of_ble_eq_true rfl) ⟨by omega, by omega⟩ ?_
  refine z_istore (n := 0) F [(6, .int r_4), (5, .int r_2), (0, .ref b), (1, zr G 0), (2, zr G 116), (3, zr G 603), (4, .int (nI j))] dL_law__2154 (Nat.le_of_ble_eq_true rfl) rfl ?_
  refine z_aload_n F dL_law__2156 rfl 4 rfl ?_
  obtain ⟨r_6, v_5, hq2157, h⟩ := zbind_ex h
  refine z_callVi F [] [] (kX10_thrown x.2.1 G 116 t1 v_3 r_6 v_5 hq2157) mI_X10_thrown (c := 10) rfl t1 wM_L_144 mi_X10_thrown sl_X10_thrown dL_law__2157 rfl ⟨by omega, by omega⟩ rfl (Nat.le_of_ble_eq_true rfl) ⟨by omega, by omega⟩ ?_
  refine z_iload F dL_law__2160 1 rfl ?_
  refine z_icmp_eq F 2167 dL_law__2162 rfl (fun hc => ?_) (fun hc => ?_)
  · replace h := zif_t hc h
    refine z_iload F dL_law__2167 1 rfl ?_
    refine z_if_ne F 2184 dL_law__2169 rfl (fun hc => ?_) (fun hc => ?_)
    · replace h := zif_f hc h
      refine z_goto F 2917 dL_law__2184 rfl ?_
      cases h
      refine z_ls [(0, .ref b), (1, zr G 0), (2, zr G 116), (3, zr G 603), (4, .int (nI j))] [2, 3, 4, 5, 6] rfl ?_
      exact z_wide (cs' := cs + 5) (sl' := sl + 30) (by omega) (by omega) kk
    · replace h := zif_t hc h
      refine z_aload_n F dL_law__2172 rfl 5 rfl ?_
      refine z_iconst (y := (0 : Int32)) F dL_law__2173 rfl ?_
      obtain ⟨hi2174, h⟩ := zix_ex h
      refine z_lald F t3 dL_law__2174 hi2174 ?_
      refine z_iload F dL_law__2175 0 rfl ?_
      refine z_i2l F dL_law__2177 ?_
      refine z_lcmp F dL_law__2178 ?_
      refine z_if_eq F 2184 dL_law__2179 rfl (fun hc => ?_) (fun hc => ?_)
      · replace h := zif_t hc h
        refine z_goto F 2917 dL_law__2184 rfl ?_
        cases h
        refine z_ls [(0, .ref b), (1, zr G 0), (2, zr G 116), (3, zr G 603), (4, .int (nI j))] [2, 3, 4, 5, 6] rfl ?_
        exact z_wide (cs' := cs + 5) (sl' := sl + 30) (by omega) (by omega) kk
      · replace h := zif_f hc h
        exact absurd h (by intro q; cases q)
  · replace h := zif_f hc h
    exact absurd h (by intro q; cases q)

theorem dL_law__2187 : decode cL_law_ 2187 = .ok (.aload_n 1, 1) := by decide +kernel
theorem dL_law__2188 : decode cL_law_ 2188 = .ok (.aload_n 0, 1) := by decide +kernel
theorem dL_law__2189 : decode cL_law_ 2189 = .ok (.iload 4, 2) := by decide +kernel
theorem dL_law__2191 : decode cL_law_ 2191 = .ok (.iconst 1, 1) := by decide +kernel
theorem dL_law__2192 : decode cL_law_ 2192 = .ok (.iadd, 1) := by decide +kernel
theorem dL_law__2193 : decode cL_law_ 2193 = .ok (.iaload, 1) := by decide +kernel
theorem dL_law__2194 : decode cL_law_ 2194 = .ok (.aload_n 3, 1) := by decide +kernel
theorem dL_law__2195 : decode cL_law_ 2195 = .ok (.invokestatic 256, 3) := by decide +kernel
theorem dL_law__2198 : decode cL_law_ 2198 = .ok (.istore 5, 2) := by decide +kernel
theorem dL_law__2200 : decode cL_law_ 2200 = .ok (.aload_n 2, 1) := by decide +kernel
theorem dL_law__2201 : decode cL_law_ 2201 = .ok (.aload_n 0, 1) := by decide +kernel
theorem dL_law__2202 : decode cL_law_ 2202 = .ok (.iload 4, 2) := by decide +kernel
theorem dL_law__2204 : decode cL_law_ 2204 = .ok (.iconst 1, 1) := by decide +kernel
theorem dL_law__2205 : decode cL_law_ 2205 = .ok (.iadd, 1) := by decide +kernel
theorem dL_law__2206 : decode cL_law_ 2206 = .ok (.iaload, 1) := by decide +kernel
theorem dL_law__2207 : decode cL_law_ 2207 = .ok (.invokevirtual 258, 3) := by decide +kernel
theorem dL_law__2210 : decode cL_law_ 2210 = .ok (.istore 6, 2) := by decide +kernel
theorem dL_law__2212 : decode cL_law_ 2212 = .ok (.aload_n 2, 1) := by decide +kernel
theorem dL_law__2213 : decode cL_law_ 2213 = .ok (.invokevirtual 144, 3) := by decide +kernel
theorem dL_law__2216 : decode cL_law_ 2216 = .ok (.iload 5, 2) := by decide +kernel
theorem dL_law__2218 : decode cL_law_ 2218 = .ok (.if_icmp .eq 5, 3) := by decide +kernel
theorem dL_law__2221 : decode cL_law_ 2221 = .ok (.iconst 0, 1) := by decide +kernel
theorem dL_law__2222 : decode cL_law_ 2222 = .ok (.ireturn, 1) := by decide +kernel
theorem dL_law__2223 : decode cL_law_ 2223 = .ok (.iload 5, 2) := by decide +kernel
theorem dL_law__2225 : decode cL_law_ 2225 = .ok (.ifCond .ne 15, 3) := by decide +kernel
theorem dL_law__2228 : decode cL_law_ 2228 = .ok (.aload_n 3, 1) := by decide +kernel
theorem dL_law__2229 : decode cL_law_ 2229 = .ok (.iconst 0, 1) := by decide +kernel
theorem dL_law__2230 : decode cL_law_ 2230 = .ok (.laload, 1) := by decide +kernel
theorem dL_law__2231 : decode cL_law_ 2231 = .ok (.iload 6, 2) := by decide +kernel
theorem dL_law__2233 : decode cL_law_ 2233 = .ok (.i2l, 1) := by decide +kernel
theorem dL_law__2234 : decode cL_law_ 2234 = .ok (.lcmp, 1) := by decide +kernel
theorem dL_law__2235 : decode cL_law_ 2235 = .ok (.ifCond .eq 5, 3) := by decide +kernel
theorem dL_law__2238 : decode cL_law_ 2238 = .ok (.iconst 0, 1) := by decide +kernel
theorem dL_law__2239 : decode cL_law_ 2239 = .ok (.ireturn, 1) := by decide +kernel
theorem dL_law__2240 : decode cL_law_ 2240 = .ok (.goto 677, 3) := by decide +kernel
def fLc_35 (p1 : Int32) (v : zV) : Option zV :=
  zbind (fL_rank 0 p1 603 v) fun r_2 v_1 =>
  zbind (fX10_rank 116 p1 v_1) fun r_4 v_3 =>
  zbind (fX10_thrown 116 v_3) fun r_6 v_5 =>
  if r_6 = r_2 then
    if r_2 = (0 : Int32) then
      zix (0 : Int32) (zlen 603) <|
      if (lg_cmp ((v_5 603 (0 : Int32).toNatClampNeg).toInt64) ((r_4).toInt64)) = (0 : Int32) then
        some v_5
      else
        none
    else
      some v_5
  else
    none
set_option maxRecDepth 8000 in
set_option maxHeartbeats 1000000 in
theorem jLc_35 {x : zCx} {G : zG} {fr lo b L : Nat} {xs : Nat → Int32} {Q : State → Prop} (F : zF x G cL_law_ 7 RL fr lo) (hfr : 400 ≤ fr ∧ 20000 ≤ lo) (hfl : x.2.1.stackTraces = false) (hX : va_X b L xs x.2.2.2.2.1 x.2.2.2.2.1.heap) (hbl : b < x.2.2.2.2.1.heap.size) (hbA : ¬ zA G b) (t0 : zty G 0 1 9) (t1 : zty G 116 1 10) (t3 : zty G 603 2 2) {j : Nat} (hj : j + 7 ≤ L) (hL : L < 2 ^ 31) {cs sl : Nat} (hcs : cs + 5 ≤ x.2.2.2.1.cells ∧ sl + 30 ≤ x.2.2.2.1.slots) (v w : zV) (h : fLc_35 (xs (j + 1)) v = some w) (kk : zJ x G 7 Q (cs + 5) (sl + 30) 2917 [(0, .ref b), (1, zr G 0), (2, zr G 116), (3, zr G 603), (4, .int (nI j))] [] w) : zJ x G 7 Q cs sl 2187 [(0, .ref b), (1, zr G 0), (2, zr G 116), (3, zr G 603), (4, .int (nI j))] [] v := by
  obtain ⟨hfr1, hfr2⟩ := hfr
  obtain ⟨hcs1, hcs2⟩ := hcs
  unfold fLc_35 at h
  refine z_aload_n F dL_law__2187 rfl 1 rfl ?_
  refine z_aload_n F dL_law__2188 rfl 0 rfl ?_
  refine z_iload F dL_law__2189 4 rfl ?_
  refine z_iconst (y := (1 : Int32)) F dL_law__2191 rfl ?_
  refine z_iadd F dL_law__2192 ?_
  refine z_sld F hX hbl hbA (nI_add j 1) (by omega) hL dL_law__2193 ?_
  refine z_aload_n F dL_law__2194 rfl 3 rfl ?_
  obtain ⟨r_2, v_1, hq2195, h⟩ := zbind_ex h
  refine z_callSW (n := 3) F [zr G 0, .int (xs (j + 1)), zr G 603] [] (kL_rank x.2.1 G 0 t0 (xs (j + 1)) 603 t3 v r_2 v_1 hfl hq2195) kw_L_rank wM_L_256 ms_L_rank dL_law__2195 rfl (by decide +kernel) ⟨by omega, by omega⟩ rfl (Nat.le_of_ble_eq_true rfl) ⟨by omega, by omega⟩ ?_
  refine z_istore (n := 0) F [(5, .int r_2), (0, .ref b), (1, zr G 0), (2, zr G 116), (3, zr G 603), (4, .int (nI j))] dL_law__2198 (Nat.le_of_ble_eq_true rfl) rfl ?_
  refine z_aload_n F dL_law__2200 rfl 3 rfl ?_
  refine z_aload_n F dL_law__2201 rfl 1 rfl ?_
  refine z_iload F dL_law__2202 5 rfl ?_
  refine z_iconst (y := (1 : Int32)) F dL_law__2204 rfl ?_
  refine z_iadd F dL_law__2205 ?_
  refine z_sld F hX hbl hbA (nI_add j 1) (by omega) hL dL_law__2206 ?_
  obtain ⟨r_4, v_3, hq2207, h⟩ := zbind_ex h
  refine z_callVi F [.int (xs (j + 1))] [] (kX10_rank x.2.1 G 116 t1 (xs (j + 1)) v_1 r_4 v_3 hq2207) mI_X10_rank (c := 10) rfl t1 wM_L_258 mi_X10_rank sl_X10_rank dL_law__2207 rfl ⟨by omega, by omega⟩ rfl (Nat.le_of_ble_eq_true rfl) ⟨by omega, by omega⟩ ?_
  refine z_istore (n := 0) F [(6, .int r_4), (5, .int r_2), (0, .ref b), (1, zr G 0), (2, zr G 116), (3, zr G 603), (4, .int (nI j))] dL_law__2210 (Nat.le_of_ble_eq_true rfl) rfl ?_
  refine z_aload_n F dL_law__2212 rfl 4 rfl ?_
  obtain ⟨r_6, v_5, hq2213, h⟩ := zbind_ex h
  refine z_callVi F [] [] (kX10_thrown x.2.1 G 116 t1 v_3 r_6 v_5 hq2213) mI_X10_thrown (c := 10) rfl t1 wM_L_144 mi_X10_thrown sl_X10_thrown dL_law__2213 rfl ⟨by omega, by omega⟩ rfl (Nat.le_of_ble_eq_true rfl) ⟨by omega, by omega⟩ ?_
  refine z_iload F dL_law__2216 1 rfl ?_
  refine z_icmp_eq F 2223 dL_law__2218 rfl (fun hc => ?_) (fun hc => ?_)
  · replace h := zif_t hc h
    refine z_iload F dL_law__2223 1 rfl ?_
    refine z_if_ne F 2240 dL_law__2225 rfl (fun hc => ?_) (fun hc => ?_)
    · replace h := zif_f hc h
      refine z_goto F 2917 dL_law__2240 rfl ?_
      cases h
      refine z_ls [(0, .ref b), (1, zr G 0), (2, zr G 116), (3, zr G 603), (4, .int (nI j))] [2, 3, 4, 5, 6] rfl ?_
      exact z_wide (cs' := cs + 5) (sl' := sl + 30) (by omega) (by omega) kk
    · replace h := zif_t hc h
      refine z_aload_n F dL_law__2228 rfl 5 rfl ?_
      refine z_iconst (y := (0 : Int32)) F dL_law__2229 rfl ?_
      obtain ⟨hi2230, h⟩ := zix_ex h
      refine z_lald F t3 dL_law__2230 hi2230 ?_
      refine z_iload F dL_law__2231 0 rfl ?_
      refine z_i2l F dL_law__2233 ?_
      refine z_lcmp F dL_law__2234 ?_
      refine z_if_eq F 2240 dL_law__2235 rfl (fun hc => ?_) (fun hc => ?_)
      · replace h := zif_t hc h
        refine z_goto F 2917 dL_law__2240 rfl ?_
        cases h
        refine z_ls [(0, .ref b), (1, zr G 0), (2, zr G 116), (3, zr G 603), (4, .int (nI j))] [2, 3, 4, 5, 6] rfl ?_
        exact z_wide (cs' := cs + 5) (sl' := sl + 30) (by omega) (by omega) kk
      · replace h := zif_f hc h
        exact absurd h (by intro q; cases q)
  · replace h := zif_f hc h
    exact absurd h (by intro q; cases q)

