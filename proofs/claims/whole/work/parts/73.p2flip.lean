/-! SKIP, FLIP, QUORUM -/
section
/-! SKIP -/
def sRun (α : sA) (ρ : sR) (q s : Nat) : Nat → Nat → Nat
  | 0, _ => 0
  | d + 1, c => if c < (sCh ρ).length ∧ α (10 + (sCh ρ).getD c 0) q = s then sRun α ρ q s d (c + 2) + 1 else 0
def sSkipL (α : sA) (ρ : sR) (q f m : Nat) : Nat := max m (sRun α ρ q (α (10 + (sCh ρ).getD f 0) q) 13 f)
def sSkip (α : sA) (ρ : sR) (q : Nat) : Nat := zit (sSkipL α ρ q) (sCh ρ).length 0 0
theorem sRun_le (α : sA) (ρ : sR) (q s : Nat) : ∀ d c, sRun α ρ q s d c ≤ d := by
  intro d
  induction d with
  | zero => intro c; exact Nat.le_refl _
  | succ d ih =>
    intro c
    rw [sRun]
    have := ih (c + 2)
    split <;> omega
theorem sRun_stop (α : sA) (ρ : sR) (q s : Nat) : ∀ d e c, (sCh ρ).length ≤ c + 2 * d → sRun α ρ q s (d + e) c = sRun α ρ q s d c := by
  intro d
  induction d with
  | zero =>
    intro e c h
    rw [Nat.zero_add]
    cases e with
    | zero => rfl
    | succ e => rw [show sRun α ρ q s 0 c = 0 from rfl, sRun, if_neg (by omega)]
  | succ d ih =>
    intro e c h
    rw [show d + 1 + e = (d + e) + 1 by omega, sRun, sRun, ih e (c + 2) (by omega)]
theorem p_skipI {v : zV} {α : sA} {ρ : sR} (h : eqC v α ρ) (hb : bdC α ρ) (K : Nat → Int32 → Int32 → Int32 → zV → Option (Int32 × zV)) {q : Nat} (hq : q < α 0 0) {s : Nat} (hs : s < 3) (m f : Nat) (hm : m ≤ 13) : ∀ (d n c x : Nat), (sCh ρ).length ≤ c + 2 * d → c < 100 → x + d ≤ 100 → d < n → fX3_longestSkip_31 K n 96 (nI q) (nI m) (nI f) (nI x) (nI s) (nI c) v = K 96 (nI q) (nI (max m (x + sRun α ρ q s d c))) (nI (f + 1)) v := by
  obtain ⟨hM, hl, hch, hal, hwt, hdf, hsm, hsd⟩ := h
  obtain ⟨⟨b1, b2, b3⟩, bch, bst, bdf, bbl⟩ := hb
  intro d
  induction d with
  | zero =>
    intro n c x hd hc hx hn
    obtain ⟨n, rfl⟩ : ∃ k, n = k + 1 := ⟨n - 1, by omega⟩
    rw [fX3_longestSkip_31]
    dsimp only
    rw [rf_96_1, hl, if_pos (nI_le (by omega) (by omega)), zmax_nI (by omega) (by omega), nI_1]
    rfl
  | succ d ih =>
    intro n c x hd hc hx hn
    obtain ⟨n, rfl⟩ : ∃ k, n = k + 1 := ⟨n - 1, by omega⟩
    rw [fX3_longestSkip_31]
    dsimp only
    rw [rf_96_1, hl, sRun]
    by_cases e : c < (sCh ρ).length
    · have c1 := hch c e
      have c2 := hsd _ q (bch c e) hq
      have c3 := bbl _ q (bch c e) hq
      rw [if_neg (nI_ge e (by omega))]
      unfold fX3_sideOnChair
      simp (disch := omega) only [↓reduceIte, i_0, i_1, i_2, i_3, i_4, i_5, i_6, i_7, i_8, i_9, i_10, i_11, i_12, i_13, i_14, i_15, i_16, i_17, i_18, i_19, i_20, i_21, i_22, i_23, i_24, i_25, i_26, i_27, i_28, i_29, i_30, i_31, i_32, i_33, i_34, i_35, i_36, i_37, i_38, i_39, i_40, i_41, i_42, i_43, i_44, i_45, i_46, i_47, i_48, i_49, i_50, i_51, i_52, i_53, i_54, i_55, i_56, i_57, i_58, i_59, i_60, i_61, i_62, i_63, i_91, i_93, i_97, i_98, i_99, i_100, i_101, i_102, i_103, i_104, i_122, i_150, i_200, i_255, i_305, i_600, i_729, i_999, i_1365, i_12345, i_32767, i_65536, i_100000, i_1000000, i_1103515245, zlet_eq, zbind_some, zbindv_some, ofN_nI, nI_add, pk_mul, nI_sub', nI_addg, gg_sub, nI_cl', zix_nI, rf_96_0, rf_96_1, rf_96_2, ln_97, c1, c2, nI_eq']
      by_cases e2 : α (10 + (sCh ρ).getD c 0) q = s
      · rw [if_pos e2, if_pos ⟨e, e2⟩, ih n (c + 2) (x + 1) (by omega) (by omega) (by omega) (by omega)]
        rw [show x + 1 + sRun α ρ q s d (c + 2) = x + (sRun α ρ q s d (c + 2) + 1) by omega]
      · rw [if_neg e2, if_neg (fun p => e2 p.2), zmax_nI (by omega) (by omega)]
        rfl
    · rw [if_pos (nI_le (by omega) (by omega)), if_neg (fun p => e p.1), zmax_nI (by omega) (by omega), nI_1]
      rfl
theorem sSkipL_le (α : sA) (ρ : sR) (q f m : Nat) (hm : m ≤ 13) : sSkipL α ρ q f m ≤ 13 := by
  have := sRun_le α ρ q (α (10 + (sCh ρ).getD f 0) q) 13 f
  unfold sSkipL
  omega
theorem p_skip {v : zV} {α : sA} {ρ : sR} (h : eqC v α ρ) (hb : bdC α ρ) {q : Nat} (hq : q < α 0 0) : fX3_longestSkip 96 (nI q) v = some (nI (sSkip α ρ q), v) := by
  have hl := h.2.1
  have hch := h.2.2.1
  have hsd := h.2.2.2.2.2.2.2
  have b3 := hb.1.2.2
  have bch := hb.2.1
  have bbl := hb.2.2.2.2
  unfold fX3_longestSkip
  refine lpI (fun n j (m : Nat) => fX3_longestSkip_4 n 96 (nI q) (nI m) (nI j) v) (sSkipL α ρ q) (sCh ρ).length (fun m => some (nI m, v)) (fun _ m => m ≤ 13) (fun n m _ => ?_) (fun n j m hj hm => ⟨?_, sSkipL_le α ρ q j m hm⟩) (sCh ρ).length zFU 0 0 (Nat.zero_add _) (by unfold zFU; omega) (by decide)
  · show fX3_longestSkip_4 (n + 1) 96 (nI q) (nI m) (nI (sCh ρ).length) v = _
    rw [fX3_longestSkip_4]
    dsimp only
    rw [rf_96_1, hl, if_pos (Int32.le_refl _)]
  · show fX3_longestSkip_4 (n + 1) 96 (nI q) (nI m) (nI j) v = fX3_longestSkip_4 n 96 (nI q) (nI (sSkipL α ρ q j m)) (nI (j + 1)) v
    have c1 := hch j hj
    have c2 := hsd _ q (bch j hj) hq
    have c3 := bbl _ q (bch j hj) hq
    rw [fX3_longestSkip_4]
    dsimp only
    rw [rf_96_1, hl, if_neg (nI_ge hj (by omega))]
    unfold fX3_sideOnChair
    simp (disch := omega) only [↓reduceIte, i_0, i_1, i_2, i_3, i_4, i_5, i_6, i_7, i_8, i_9, i_10, i_11, i_12, i_13, i_14, i_15, i_16, i_17, i_18, i_19, i_20, i_21, i_22, i_23, i_24, i_25, i_26, i_27, i_28, i_29, i_30, i_31, i_32, i_33, i_34, i_35, i_36, i_37, i_38, i_39, i_40, i_41, i_42, i_43, i_44, i_45, i_46, i_47, i_48, i_49, i_50, i_51, i_52, i_53, i_54, i_55, i_56, i_57, i_58, i_59, i_60, i_61, i_62, i_63, i_91, i_93, i_97, i_98, i_99, i_100, i_101, i_102, i_103, i_104, i_122, i_150, i_200, i_255, i_305, i_600, i_729, i_999, i_1365, i_12345, i_32767, i_65536, i_100000, i_1000000, i_1103515245, zlet_eq, zbind_some, zbindv_some, ofN_nI, nI_add, pk_mul, nI_sub', nI_addg, gg_sub, nI_cl', zix_nI, rf_96_0, rf_96_1, rf_96_2, ln_97, c1, c2]
    rw [p_skipI h hb _ hq c3 m j hm 12 zFU (j + 2) 1 (by omega) (by omega) (by omega) (by unfold zFU; omega)]
    have e13 : sRun α ρ q (α (10 + (sCh ρ).getD j 0) q) 13 j = sRun α ρ q (α (10 + (sCh ρ).getD j 0) q) 12 (j + 2) + 1 := if_pos ⟨hj, rfl⟩
    unfold sSkipL
    rw [e13, Nat.add_comm 1]
theorem p_mSkipI {v : zV} {α : sA} {ρ : sR} (h : eqM v α ρ) (hb : bdC α ρ) (K : Nat → Int32 → Int32 → Int32 → zV → Option (Int32 × zV)) {q : Nat} (hq : q < α 0 0) (m : Nat) {f : Nat} (hf : f < (sCh ρ).length) (hm : m ≤ 13) : ∀ (d n c x : Nat), (sCh ρ).length ≤ c + 2 * d → c < 100 → x + d ≤ 100 → d < n → fX10_skip_50 K n 116 (nI q) (nI m) (nI f) (nI x) (nI c) v = K 116 (nI q) (nI (max m (x + sRun α ρ q (α (10 + (sCh ρ).getD f 0) q) d c))) (nI (f + 1)) v := by
  obtain ⟨hM, hl, hch, hst, hdf, hbl⟩ := h
  obtain ⟨⟨b1, b2, b3⟩, bch, bst, bdf, bbl⟩ := hb
  have f1 := hch f hf
  have f2 := bch f hf
  have f3 := hbl _ q f2 hq
  have f4 := bbl _ q f2 hq
  have rf1 := rfa_144 ((sCh ρ).getD f 0) (by omega)
  have lf1 := lna_144 ((sCh ρ).getD f 0) (by omega)
  intro d
  induction d with
  | zero =>
    intro n c x hd hc hx hn
    obtain ⟨n, rfl⟩ : ∃ k, n = k + 1 := ⟨n - 1, by omega⟩
    rw [fX10_skip_50]
    dsimp only
    simp (disch := omega) only [↓reduceIte, i_0, i_1, i_2, i_3, i_4, i_5, i_6, i_7, i_8, i_9, i_10, i_11, i_12, i_13, i_14, i_15, i_16, i_17, i_18, i_19, i_20, i_21, i_22, i_23, i_24, i_25, i_26, i_27, i_28, i_29, i_30, i_31, i_32, i_33, i_34, i_35, i_36, i_37, i_38, i_39, i_40, i_41, i_42, i_43, i_44, i_45, i_46, i_47, i_48, i_49, i_50, i_51, i_52, i_53, i_54, i_55, i_56, i_57, i_58, i_59, i_60, i_61, i_62, i_63, i_91, i_93, i_97, i_98, i_99, i_100, i_101, i_102, i_103, i_104, i_122, i_150, i_200, i_255, i_305, i_600, i_729, i_999, i_1365, i_12345, i_32767, i_65536, i_100000, i_1000000, i_1103515245, zlet_eq, zbind_some, zbindv_some, ofN_nI, nI_add, pk_mul, nI_sub', nI_addg, gg_sub, nI_cl', zix_nI, rf_116_9, rf_116_10, rf_116_11, rf_116_12, rf_116_13, rf_116_14, rf_116_15, rf_116_16, rf_116_17, rf_116_18, rf_116_19, rf_116_20, rf_116_21, rf_116_22, rf_116_23, rf_116_24, rf_116_28, rf_116_29, rf_116_30, rf_116_31, rf_116_32, rf_116_33, rf_116_34, rf_116_35, rf_116_36, rf_116_37, rf_116_38, rf_116_39, rf_116_43, rf_116_49, rf_116_51, rf_116_54, rf_116_55, rf_116_56, rf_116_59, ln_127, ln_144, ln_161, ln_174, ln_187, ln_200, ln_213, ln_374, ln_535, ln_548, ln_561, ln_572, ln_577, ln_582, ln_117, ln_118, ln_119, ln_120, ln_121, ln_122, ln_123, ln_124, ln_125, ln_126, ln_565, ln_566, ln_567, ln_568, ln_569, ln_570, ln_571, ln_576, ln_600, ln_601, ln_602, ln_603, hl, p_more, zmax_nI]
    rw [if_pos (nI_le (by omega) (by omega))]
    rfl
  | succ d ih =>
    intro n c x hd hc hx hn
    obtain ⟨n, rfl⟩ : ∃ k, n = k + 1 := ⟨n - 1, by omega⟩
    rw [fX10_skip_50]
    dsimp only
    rw [sRun]
    by_cases e : c < (sCh ρ).length
    · have c1 := hch c e
      have c2 := hbl _ q (bch c e) hq
      have c3 := bbl _ q (bch c e) hq
      have c4 := bch c e
      have ra := rfa_144 ((sCh ρ).getD c 0) (by omega)
      have la := lna_144 ((sCh ρ).getD c 0) (by omega)
      simp (disch := omega) only [↓reduceIte, i_0, i_1, i_2, i_3, i_4, i_5, i_6, i_7, i_8, i_9, i_10, i_11, i_12, i_13, i_14, i_15, i_16, i_17, i_18, i_19, i_20, i_21, i_22, i_23, i_24, i_25, i_26, i_27, i_28, i_29, i_30, i_31, i_32, i_33, i_34, i_35, i_36, i_37, i_38, i_39, i_40, i_41, i_42, i_43, i_44, i_45, i_46, i_47, i_48, i_49, i_50, i_51, i_52, i_53, i_54, i_55, i_56, i_57, i_58, i_59, i_60, i_61, i_62, i_63, i_91, i_93, i_97, i_98, i_99, i_100, i_101, i_102, i_103, i_104, i_122, i_150, i_200, i_255, i_305, i_600, i_729, i_999, i_1365, i_12345, i_32767, i_65536, i_100000, i_1000000, i_1103515245, zlet_eq, zbind_some, zbindv_some, ofN_nI, nI_add, pk_mul, nI_sub', nI_addg, gg_sub, nI_cl', zix_nI, rf_116_9, rf_116_10, rf_116_11, rf_116_12, rf_116_13, rf_116_14, rf_116_15, rf_116_16, rf_116_17, rf_116_18, rf_116_19, rf_116_20, rf_116_21, rf_116_22, rf_116_23, rf_116_24, rf_116_28, rf_116_29, rf_116_30, rf_116_31, rf_116_32, rf_116_33, rf_116_34, rf_116_35, rf_116_36, rf_116_37, rf_116_38, rf_116_39, rf_116_43, rf_116_49, rf_116_51, rf_116_54, rf_116_55, rf_116_56, rf_116_59, ln_127, ln_144, ln_161, ln_174, ln_187, ln_200, ln_213, ln_374, ln_535, ln_548, ln_561, ln_572, ln_577, ln_582, ln_117, ln_118, ln_119, ln_120, ln_121, ln_122, ln_123, ln_124, ln_125, ln_126, ln_565, ln_566, ln_567, ln_568, ln_569, ln_570, ln_571, ln_576, ln_600, ln_601, ln_602, ln_603, hl, c1, c2, f1, f3, ra, la, rf1, lf1, nI_eq', p_more, zmax_nI]
      rw [if_neg (nI_ge e (by omega))]
      by_cases e2 : α (10 + (sCh ρ).getD c 0) q = α (10 + (sCh ρ).getD f 0) q
      · rw [if_pos e2, if_pos ⟨e, e2⟩, ih n (c + 2) (x + 1) (by omega) (by omega) (by omega) (by omega)]
        rw [show x + 1 + sRun α ρ q (α (10 + (sCh ρ).getD f 0) q) d (c + 2) = x + (sRun α ρ q (α (10 + (sCh ρ).getD f 0) q) d (c + 2) + 1) by omega]
      · rw [if_neg e2, if_neg (fun p => e2 p.2)]
        rfl
    · simp (disch := omega) only [↓reduceIte, i_0, i_1, i_2, i_3, i_4, i_5, i_6, i_7, i_8, i_9, i_10, i_11, i_12, i_13, i_14, i_15, i_16, i_17, i_18, i_19, i_20, i_21, i_22, i_23, i_24, i_25, i_26, i_27, i_28, i_29, i_30, i_31, i_32, i_33, i_34, i_35, i_36, i_37, i_38, i_39, i_40, i_41, i_42, i_43, i_44, i_45, i_46, i_47, i_48, i_49, i_50, i_51, i_52, i_53, i_54, i_55, i_56, i_57, i_58, i_59, i_60, i_61, i_62, i_63, i_91, i_93, i_97, i_98, i_99, i_100, i_101, i_102, i_103, i_104, i_122, i_150, i_200, i_255, i_305, i_600, i_729, i_999, i_1365, i_12345, i_32767, i_65536, i_100000, i_1000000, i_1103515245, nI_cl', nI_add, rf_116_35, ln_567, hl, zix_nI, p_more, zbind_some, zmax_nI]
      rw [if_pos (nI_le (by omega) (by omega)), if_neg (fun p => e p.1)]
      rfl
theorem p_mSkip {v : zV} {α : sA} {ρ : sR} (h : eqM v α ρ) (hb : bdC α ρ) {q : Nat} (hq : q < α 0 0) : fX10_skip_33 zFU 116 (nI q) 0 0 v = some (nI (sSkip α ρ q), v) := by
  have hl := h.2.1
  have b3 := hb.1.2.2
  refine lpI (fun n j (m : Nat) => fX10_skip_33 n 116 (nI q) (nI m) (nI j) v) (sSkipL α ρ q) (sCh ρ).length (fun m => some (nI m, v)) (fun _ m => m ≤ 13) (fun n m _ => ?_) (fun n j m hj hm => ⟨?_, sSkipL_le α ρ q j m hm⟩) (sCh ρ).length zFU 0 0 (Nat.zero_add _) (by unfold zFU; omega) (by decide)
  · show fX10_skip_33 (n + 1) 116 (nI q) (nI m) (nI (sCh ρ).length) v = _
    rw [fX10_skip_33]
    dsimp only
    simp (disch := omega) only [↓reduceIte, i_0, i_1, i_2, i_3, i_4, i_5, i_6, i_7, i_8, i_9, i_10, i_11, i_12, i_13, i_14, i_15, i_16, i_17, i_18, i_19, i_20, i_21, i_22, i_23, i_24, i_25, i_26, i_27, i_28, i_29, i_30, i_31, i_32, i_33, i_34, i_35, i_36, i_37, i_38, i_39, i_40, i_41, i_42, i_43, i_44, i_45, i_46, i_47, i_48, i_49, i_50, i_51, i_52, i_53, i_54, i_55, i_56, i_57, i_58, i_59, i_60, i_61, i_62, i_63, i_91, i_93, i_97, i_98, i_99, i_100, i_101, i_102, i_103, i_104, i_122, i_150, i_200, i_255, i_305, i_600, i_729, i_999, i_1365, i_12345, i_32767, i_65536, i_100000, i_1000000, i_1103515245, zlet_eq, zbind_some, zbindv_some, ofN_nI, nI_add, pk_mul, nI_sub', nI_addg, gg_sub, nI_cl', zix_nI, rf_116_9, rf_116_10, rf_116_11, rf_116_12, rf_116_13, rf_116_14, rf_116_15, rf_116_16, rf_116_17, rf_116_18, rf_116_19, rf_116_20, rf_116_21, rf_116_22, rf_116_23, rf_116_24, rf_116_28, rf_116_29, rf_116_30, rf_116_31, rf_116_32, rf_116_33, rf_116_34, rf_116_35, rf_116_36, rf_116_37, rf_116_38, rf_116_39, rf_116_43, rf_116_49, rf_116_51, rf_116_54, rf_116_55, rf_116_56, rf_116_59, ln_127, ln_144, ln_161, ln_174, ln_187, ln_200, ln_213, ln_374, ln_535, ln_548, ln_561, ln_572, ln_577, ln_582, ln_117, ln_118, ln_119, ln_120, ln_121, ln_122, ln_123, ln_124, ln_125, ln_126, ln_565, ln_566, ln_567, ln_568, ln_569, ln_570, ln_571, ln_576, ln_600, ln_601, ln_602, ln_603, hl]
    rw [if_pos (Int32.le_refl _)]
  · show fX10_skip_33 (n + 1) 116 (nI q) (nI m) (nI j) v = fX10_skip_33 n 116 (nI q) (nI (sSkipL α ρ q j m)) (nI (j + 1)) v
    rw [fX10_skip_33]
    dsimp only
    simp (disch := omega) only [↓reduceIte, i_0, i_1, i_2, i_3, i_4, i_5, i_6, i_7, i_8, i_9, i_10, i_11, i_12, i_13, i_14, i_15, i_16, i_17, i_18, i_19, i_20, i_21, i_22, i_23, i_24, i_25, i_26, i_27, i_28, i_29, i_30, i_31, i_32, i_33, i_34, i_35, i_36, i_37, i_38, i_39, i_40, i_41, i_42, i_43, i_44, i_45, i_46, i_47, i_48, i_49, i_50, i_51, i_52, i_53, i_54, i_55, i_56, i_57, i_58, i_59, i_60, i_61, i_62, i_63, i_91, i_93, i_97, i_98, i_99, i_100, i_101, i_102, i_103, i_104, i_122, i_150, i_200, i_255, i_305, i_600, i_729, i_999, i_1365, i_12345, i_32767, i_65536, i_100000, i_1000000, i_1103515245, zlet_eq, zbind_some, zbindv_some, ofN_nI, nI_add, pk_mul, nI_sub', nI_addg, gg_sub, nI_cl', zix_nI, rf_116_9, rf_116_10, rf_116_11, rf_116_12, rf_116_13, rf_116_14, rf_116_15, rf_116_16, rf_116_17, rf_116_18, rf_116_19, rf_116_20, rf_116_21, rf_116_22, rf_116_23, rf_116_24, rf_116_28, rf_116_29, rf_116_30, rf_116_31, rf_116_32, rf_116_33, rf_116_34, rf_116_35, rf_116_36, rf_116_37, rf_116_38, rf_116_39, rf_116_43, rf_116_49, rf_116_51, rf_116_54, rf_116_55, rf_116_56, rf_116_59, ln_127, ln_144, ln_161, ln_174, ln_187, ln_200, ln_213, ln_374, ln_535, ln_548, ln_561, ln_572, ln_577, ln_582, ln_117, ln_118, ln_119, ln_120, ln_121, ln_122, ln_123, ln_124, ln_125, ln_126, ln_565, ln_566, ln_567, ln_568, ln_569, ln_570, ln_571, ln_576, ln_600, ln_601, ln_602, ln_603, hl]
    rw [if_neg (nI_ge hj (by omega))]
    have := p_mSkipI h hb (fX10_skip_33 n) hq m hj hm 13 zFU j 0 (by omega) (by omega) (by omega) (by unfold zFU; omega)
    rw [Nat.zero_add] at this
    exact this
/-! FLIP -/
def sLvS (t : Nat → Nat) (s o : Nat) (x : Int32) : Int32 := if o = s then x else x + zmax 0 (nI (t o) - if s ≤ o then nI (t s) else nI (t s) - 1)
def sLv (t : Nat → Nat) (s : Nat) : Int32 := zit (sLvS t s) 3 0 0
def sFlS (t : Nat → Nat) (lead : Option Nat) (s : Nat) (b : Int32) : Int32 := if lead = some s ∨ t s = 0 then b else if b = -1 then sLv t s else if b ≤ sLv t s then b else sLv t s
def sFlip (t : Nat → Nat) (lead : Option Nat) : Int32 := zit (sFlS t lead) 3 0 (-1)
theorem p_leaving {v : zV} {t : Nat → Nat} (ht : ∀ s, s < 3 → v 97 s = nI (t s)) {s : Nat} (hs : s < 3) : fX3_leavingFor 96 (nI s) v = some (sLv t s, v) := by
  unfold fX3_leavingFor
  refine lpE (fun n j (x : Int32) => fX3_leavingFor_4 n 96 (nI s) x (nI j) v) (sLvS t s) 3 (fun x => some (x, v)) (fun n x => ?_) (fun n j x hj => ?_) 3 zFU 0 0 rfl (by unfold zFU; omega)
  · show fX3_leavingFor_4 (n + 1) 96 (nI s) x (nI 3) v = _
    rw [fX3_leavingFor_4]
    dsimp only
    rw [rf_96_2, ln_97, if_pos (by decide)]
  · show fX3_leavingFor_4 (n + 1) 96 (nI s) x (nI j) v = fX3_leavingFor_4 n 96 (nI s) (sLvS t s j x) (nI (j + 1)) v
    have h1 := ht s hs
    have h2 := ht j hj
    rw [fX3_leavingFor_4]
    dsimp only
    rw [rf_96_2, ln_97, if_neg (show ¬ Int32.ofNat 3 ≤ nI j from nI_ge hj (by decide)), p_get (by rw [ln_97]; exact hs)]
    unfold fX3_leavingFor_39 sLvS
    rw [rf_96_2, ln_97]
    simp (disch := omega) only [zbind_some, nI_le', nI_eq', zix_nI, nI_cl', zlet_eq, h1, h2, nI_1]
    by_cases c1 : s ≤ j
    · rw [if_pos c1, if_pos c1]
      by_cases c2 : j = s
      · rw [if_pos c2, if_pos c2]
      · rw [if_neg c2, if_neg c2]
    · rw [if_neg c1, if_neg c1]
      by_cases c2 : j = s
      · rw [if_pos c2, if_pos c2]
      · rw [if_neg c2, if_neg c2]
theorem sLd_lt {t : Nat → Nat} {m : Nat} (h : sLd t = some m) : m < 3 := by
  have := zit_inv (g := sLdS t) (fun _ e => ∀ m, e.1 = some m → m < 3) 3 (fun j e hj he m hm => by
    unfold sLdS at hm
    split at hm
    · exact he m hm
    · cases hm; exact hj) 3 0 (none, 0) rfl (fun m hm => by cases hm)
  exact this m h
theorem p_flip {v : zV} {α : sA} {l : sL} {ρ : sR} (h : CQ v α l ρ) (ho : OKs α l ρ) {q : Nat} (hq : q < α 0 0) : ∃ w, fX3_fewestToFlip 96 (nI q) v = some (sFlip (sVt α ρ q 1 0 (sCh ρ).length) (sVote α ρ q 1 0 (sCh ρ).length), w) ∧ ∀ a, a ≠ 97 → w a = v a := by
  have b3 := (bdC_of ho).1.2.2
  obtain ⟨w, hw, hwt, hwa⟩ := p_vote h ho hq (k := 1) (r := 0) ⟨by decide, by decide⟩ (by decide)
  refine ⟨w, ?_, hwa⟩
  unfold fX3_fewestToFlip
  rw [i_0, i_1, hw, zbind_some]
  have hlt : ∀ m, sVote α ρ q 1 0 (sCh ρ).length = some m → m < 3 := fun m hm => sLd_lt hm
  generalize sVote α ρ q 1 0 (sCh ρ).length = lead at hlt ⊢
  have h13 : ∀ s, sVt α ρ q 1 0 (sCh ρ).length s ≤ 13 := fun s => by have := sVt_le α ρ q 1 0 (sCh ρ).length s; omega
  generalize sVt α ρ q 1 0 (sCh ρ).length = t at hwt h13 ⊢
  refine lpE (fun n j (x : Int32) => fX3_fewestToFlip_13 n 96 (oI lead) x (nI j) w) (sFlS t lead) 3 (fun x => some (x, w)) (fun n x => ?_) (fun n j x hj => ?_) 3 zFU 0 (-1) rfl (by unfold zFU; omega)
  · show fX3_fewestToFlip_13 (n + 1) 96 (oI lead) x (nI 3) w = _
    rw [fX3_fewestToFlip_13]
    dsimp only
    rw [rf_96_2, ln_97, if_pos (by decide)]
  · show fX3_fewestToFlip_13 (n + 1) 96 (oI lead) x (nI j) w = fX3_fewestToFlip_13 n 96 (oI lead) (sFlS t lead j x) (nI (j + 1)) w
    have h1 := hwt j hj
    have h2 := h13 j
    rw [fX3_fewestToFlip_13]
    dsimp only
    rw [rf_96_2, ln_97, if_neg (show ¬ Int32.ofNat 3 ≤ nI j from nI_ge hj (by decide)), p_leaving hwt hj]
    have hle : (nI j = oI lead) = (lead = some j) := by
      cases lead with
      | none => exact propext ⟨fun q => by rw [oI_none, ng_eq (by omega) (by decide) (by decide)] at q; exact q.elim, fun q => by cases q⟩
      | some m =>
        have := hlt m rfl
        rw [oI_some, nI_eq' (by omega) (by omega)]
        exact propext ⟨fun q => by rw [q], fun q => by cases q; rfl⟩
    unfold sFlS
    simp (disch := omega) only [zbind_some, hle, i_0, nI_le', zix_nI, nI_cl', h1, nI_1]
    by_cases c1 : lead = some j
    · rw [if_pos c1, if_pos (Or.inl c1)]
    · rw [if_neg c1]
      by_cases c2 : t j = 0
      · rw [if_pos (by omega), if_pos (Or.inr c2)]
      · have hno : ¬ (lead = some j ∨ t j = 0) := fun q => by
          rcases q with q | q
          · exact c1 q
          · exact c2 q
        rw [if_neg (show ¬ t j ≤ 0 by omega), if_neg hno]
        by_cases c3 : x = -1
        · rw [if_pos c3, if_pos c3]
        · rw [if_neg c3, if_neg c3]
          split <;> rfl
theorem p_mFlipI {v : zV} {t : Nat → Nat} (ht : ∀ s, s < 3 → v 602 s = nI (t s)) (K : Nat → Int32 → Int32 → Int32 → zV → Option (Int32 × zV)) (x2 x3 : Int32) {s : Nat} (hs : s < 3) : fX10_flip_80 K zFU 116 x2 x3 (nI s) 0 0 v = fX10_flip_146 K 116 x2 x3 (nI s) (sLv t s) v := by
  refine lpE (fun n j (x : Int32) => fX10_flip_80 K n 116 x2 x3 (nI s) x (nI j) v) (sLvS t s) 3 (fun x => fX10_flip_146 K 116 x2 x3 (nI s) x v) (fun n x => ?_) (fun n j x hj => ?_) 3 zFU 0 0 rfl (by unfold zFU; omega)
  · show fX10_flip_80 K (n + 1) 116 x2 x3 (nI s) x (nI 3) v = _
    rw [fX10_flip_80]
    dsimp only
    rw [if_pos (by decide)]
  · show fX10_flip_80 K (n + 1) 116 x2 x3 (nI s) x (nI j) v = fX10_flip_80 K n 116 x2 x3 (nI s) (sLvS t s j x) (nI (j + 1)) v
    have h1 := ht s hs
    have h2 := ht j hj
    rw [fX10_flip_80]
    dsimp only
    rw [if_neg (show ¬ (3 : Int32) ≤ nI j from nI_ge (b := 3) hj (by decide))]
    unfold sLvS
    simp (disch := omega) only [zbind_some, nI_le', nI_eq', zix_nI, nI_cl', rf_116_59, ln_602, h1, h2, nI_1, p_more, Int32.add_zero]
    by_cases c2 : j = s
    · rw [if_pos c2, if_pos c2]
    · rw [if_neg c2, if_neg c2]
      by_cases c1 : s ≤ j
      · rw [if_pos c1, if_pos c1]
      · rw [if_neg c1, if_neg c1]
theorem p_mFlip {v : zV} {α : sA} {l : sL} {ρ : sR} (h : MQ' v α l ρ) (ho : OKs α l ρ) {q : Nat} (hq : q < α 0 0) : ∃ w, (zbind (fX10_voteOf 116 (nI q) 1 0 (nI (sCh ρ).length) v) fun r_4 v_3 => fX10_flip_49 zFU 116 r_4 (-1) 0 v_3) = some (sFlip (sVt α ρ q 1 0 (sCh ρ).length) (sVote α ρ q 1 0 (sCh ρ).length), w) ∧ ∀ a, a ≠ 602 → w a = v a := by
  have b3 := (bdC_of ho).1.2.2
  obtain ⟨w, hw, hwt, hwa⟩ := p_mVote h ho hq (k := 1) (r := 0) ⟨by decide, by decide⟩ (by decide) (Nat.le_refl _)
  refine ⟨w, ?_, hwa⟩
  rw [show fX10_voteOf 116 (nI q) 1 0 (nI (sCh ρ).length) v = _ from hw, zbind_some]
  have hlt : ∀ m, sVote α ρ q 1 0 (sCh ρ).length = some m → m < 3 := fun m hm => sLd_lt hm
  generalize sVote α ρ q 1 0 (sCh ρ).length = lead at hlt ⊢
  have h13 : ∀ s, sVt α ρ q 1 0 (sCh ρ).length s ≤ 13 := fun s => by have := sVt_le α ρ q 1 0 (sCh ρ).length s; omega
  generalize sVt α ρ q 1 0 (sCh ρ).length = t at hwt h13 ⊢
  refine lpE (fun n j (x : Int32) => fX10_flip_49 n 116 (oI lead) x (nI j) w) (sFlS t lead) 3 (fun x => some (x, w)) (fun n x => ?_) (fun n j x hj => ?_) 3 zFU 0 (-1) rfl (by unfold zFU; omega)
  · show fX10_flip_49 (n + 1) 116 (oI lead) x (nI 3) w = _
    rw [fX10_flip_49]
    dsimp only
    rw [if_pos (by decide)]
  · show fX10_flip_49 (n + 1) 116 (oI lead) x (nI j) w = fX10_flip_49 n 116 (oI lead) (sFlS t lead j x) (nI (j + 1)) w
    have h1 := hwt j hj
    have h2 := h13 j
    rw [fX10_flip_49]
    dsimp only
    rw [if_neg (show ¬ (3 : Int32) ≤ nI j from nI_ge (b := 3) hj (by decide)), p_mFlipI hwt _ _ _ hj]
    have hle : (nI j = oI lead) = (lead = some j) := by
      cases lead with
      | none => exact propext ⟨fun q => by rw [oI_none, ng_eq (by omega) (by decide) (by decide)] at q; exact q.elim, fun q => by cases q⟩
      | some m =>
        have := hlt m rfl
        rw [oI_some, nI_eq' (by omega) (by omega)]
        exact propext ⟨fun q => by rw [q], fun q => by cases q; rfl⟩
    unfold sFlS fX10_flip_146
    simp (disch := omega) only [hle, i_0, nI_eq', zix_nI, nI_cl', rf_116_59, ln_602, h1, nI_1]
    by_cases c1 : lead = some j
    · rw [if_pos c1, if_pos (Or.inl c1)]
    · rw [if_neg c1]
      by_cases c2 : t j = 0
      · rw [if_pos c2, if_pos (Or.inr c2)]
      · have hno : ¬ (lead = some j ∨ t j = 0) := fun q => by
          rcases q with q | q
          · exact c1 q
          · exact c2 q
        rw [if_neg c2, if_neg hno]
        by_cases c3 : x = -1
        · rw [if_pos c3, if_pos c3]
        · rw [if_neg c3, if_neg c3]
          split <;> rfl
end
