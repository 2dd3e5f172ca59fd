/-! the reference: deaths, a year -/
section
theorem p_mRiseL {r : Nat} (hr : rowM r) {len : Nat} (hl13 : len ≤ 13) (h1 : 0 < len) : ∀ (d n j : Nat) (v : zV), d = len - 1 - j → j + 1 ≤ len → v r 61 = nI len → d < n → ∃ w, fX10_risesFrom_2 n r (nI j) v = some (zup w r 61 (nI (len - 1))) ∧ (∀ a, a ≠ r → w a = v a) ∧ (∀ k, (k < 48 ∨ 60 < k) → w r k = v r k) ∧ ∀ k, k < 13 → w r (48 + k) = if j ≤ k ∧ k + 1 < len then v r (48 + k + 1) else v r (48 + k) := by
  have hlr := hr.1
  intro d
  induction d with
  | zero =>
    intro n j v hd hj hl hn
    obtain ⟨n, rfl⟩ : ∃ k, n = k + 1 := ⟨n - 1, by omega⟩
    refine ⟨v, ?_, fun _ _ => rfl, fun _ _ => rfl, fun k _ => by rw [if_neg (by omega)]⟩
    rw [fX10_risesFrom_2]
    dsimp only
    simp (disch := omega) only [↓reduceIte, i_0, i_1, i_2, i_3, i_4, i_5, i_6, i_7, i_8, i_9, i_10, i_11, i_12, i_13, i_14, i_15, i_16, i_17, i_18, i_19, i_20, i_21, i_22, i_23, i_24, i_25, i_26, i_27, i_28, i_29, i_30, i_31, i_32, i_33, i_34, i_35, i_36, i_37, i_38, i_39, i_40, i_41, i_42, i_43, i_44, i_45, i_46, i_47, i_48, i_49, i_50, i_51, i_52, i_53, i_54, i_55, i_56, i_57, i_58, i_59, i_60, i_61, i_62, i_63, i_91, i_93, i_97, i_98, i_99, i_100, i_101, i_102, i_103, i_104, i_122, i_150, i_200, i_255, i_305, i_600, i_729, i_999, i_1365, i_12345, i_32767, i_65536, i_100000, i_1000000, i_1103515245, zlet_eq, zbind_some, zbindv_some, ofN_nI, nI_add, pk_mul, nI_sub', nI_addg, gg_sub, nI_cl', zix_nI, rf_116_9, rf_116_10, rf_116_11, rf_116_12, rf_116_13, rf_116_14, rf_116_15, rf_116_16, rf_116_17, rf_116_18, rf_116_19, rf_116_20, rf_116_21, rf_116_22, rf_116_23, rf_116_24, rf_116_28, rf_116_29, rf_116_30, rf_116_31, rf_116_32, rf_116_33, rf_116_34, rf_116_35, rf_116_36, rf_116_37, rf_116_38, rf_116_39, rf_116_43, rf_116_49, rf_116_51, rf_116_54, rf_116_55, rf_116_56, rf_116_59, ln_127, ln_144, ln_161, ln_174, ln_187, ln_200, ln_213, ln_374, ln_535, ln_548, ln_561, ln_572, ln_577, ln_582, ln_117, ln_118, ln_119, ln_120, ln_121, ln_122, ln_123, ln_124, ln_125, ln_126, ln_565, ln_566, ln_567, ln_568, ln_569, ln_570, ln_571, ln_576, ln_600, ln_601, ln_602, ln_603, hlr, hl]
    rw [if_pos (nI_le (by omega) (by omega))]
  | succ d ih =>
    intro n j v hd hj hl hn
    obtain ⟨n, rfl⟩ : ∃ k, n = k + 1 := ⟨n - 1, by omega⟩
    obtain ⟨w, hw, ha, hk, hc⟩ := ih n (j + 1) (zup v r (48 + j) (v r (48 + j + 1))) (by omega) (by omega) (by rw [p_up_n _ _ (Or.inr (by omega))]; exact hl) (by omega)
    refine ⟨w, ?_, fun a h => (ha a h).trans (p_up_a v _ _ h), fun k h => (hk k h).trans (p_up_n v _ (Or.inr (by omega))), fun k h => ?_⟩
    · rw [fX10_risesFrom_2]
      dsimp only
      simp (disch := omega) only [↓reduceIte, i_0, i_1, i_2, i_3, i_4, i_5, i_6, i_7, i_8, i_9, i_10, i_11, i_12, i_13, i_14, i_15, i_16, i_17, i_18, i_19, i_20, i_21, i_22, i_23, i_24, i_25, i_26, i_27, i_28, i_29, i_30, i_31, i_32, i_33, i_34, i_35, i_36, i_37, i_38, i_39, i_40, i_41, i_42, i_43, i_44, i_45, i_46, i_47, i_48, i_49, i_50, i_51, i_52, i_53, i_54, i_55, i_56, i_57, i_58, i_59, i_60, i_61, i_62, i_63, i_91, i_93, i_97, i_98, i_99, i_100, i_101, i_102, i_103, i_104, i_122, i_150, i_200, i_255, i_305, i_600, i_729, i_999, i_1365, i_12345, i_32767, i_65536, i_100000, i_1000000, i_1103515245, zlet_eq, zbind_some, zbindv_some, ofN_nI, nI_add, pk_mul, nI_sub', nI_addg, gg_sub, nI_cl', zix_nI, rf_116_9, rf_116_10, rf_116_11, rf_116_12, rf_116_13, rf_116_14, rf_116_15, rf_116_16, rf_116_17, rf_116_18, rf_116_19, rf_116_20, rf_116_21, rf_116_22, rf_116_23, rf_116_24, rf_116_28, rf_116_29, rf_116_30, rf_116_31, rf_116_32, rf_116_33, rf_116_34, rf_116_35, rf_116_36, rf_116_37, rf_116_38, rf_116_39, rf_116_43, rf_116_49, rf_116_51, rf_116_54, rf_116_55, rf_116_56, rf_116_59, ln_127, ln_144, ln_161, ln_174, ln_187, ln_200, ln_213, ln_374, ln_535, ln_548, ln_561, ln_572, ln_577, ln_582, ln_117, ln_118, ln_119, ln_120, ln_121, ln_122, ln_123, ln_124, ln_125, ln_126, ln_565, ln_566, ln_567, ln_568, ln_569, ln_570, ln_571, ln_576, ln_600, ln_601, ln_602, ln_603, hlr, hl]
      rw [if_neg (nI_ge (by omega) (by omega))]
      exact hw
    · rw [hc k h]
      by_cases h9 : j + 1 ≤ k ∧ k + 1 < len
      · rw [if_pos h9, if_pos (by omega), p_up_n v _ (Or.inr (by omega))]
      · rw [if_neg h9]
        by_cases h8 : k = j
        · subst h8
          rw [p_up_s, if_pos (by omega)]
        · rw [p_up_n v _ (Or.inr (by omega)), if_neg (by omega)]
theorem p_mRises {r : Nat} (hr : rowM r) {v : zV} {ρ : sR} (h : MR r v ρ) {c : Nat} (hc : c < (sCh ρ).length) : ∃ w, fX10_risesFrom r (nI c) v = some w ∧ MR r w (rUpCh ρ ((sCh ρ).eraseIdx c)) ∧ ∀ a, a ≠ r → w a = v a := by
  have hl13 := h.2.2.2.2.2.2.2.2.1
  obtain ⟨w, hw, ha, hk, hc2⟩ := p_mRiseL hr hl13 (by omega) _ zFU c v rfl (by omega) h.1.1 (by unfold zFU; omega)
  refine ⟨_, hw, ?_, fun a h => (p_up_a _ _ _ h).trans (ha a h)⟩
  unfold MR
  rw [zupRow]
  exact MRf_er h hc (w := w r) hk hc2
theorem p_mLeaves {r : Nat} (hr : rowM r) {v : zV} {ρ : sR} (h : MR r v ρ) (ho : okC ρ) {c : Nat} (hc : c < (sCh ρ).length) : ∃ w, fX10_leaves r (nI c) v = some w ∧ MR r w (sLeave ρ c) ∧ ∀ a, a ≠ r → w a = v a := by
  have hlr := hr.1
  have h13 := ho.1
  have hm : (sCh ρ).getD c 0 < 16 := ho.2.1 _ (getD_mem hc)
  have hch := h.2.2.2.2.1 c hc
  have h102 := h.1.2.2.2.2.2.1
  have h2 : MR r (zup (zup v r ((sCh ρ).getD c 0) (nI 2)) r 102 (nI (sSc ρ 3 + 1))) (rUpSc (rUpSt ρ (sUp (sSt ρ) ((sCh ρ).getD c 0) 2)) (sUp (sSc ρ) 3 (sSc ρ 3 + 1))) := by
    unfold MR
    rw [zupRow, zupRow]
    exact MRf_sc (MRf_st h hm 2) (k := 102) (j := 3) (Or.inr (Or.inr (Or.inl ⟨rfl, rfl⟩))) _
  obtain ⟨w, hw, hr2, hon⟩ := p_mRises hr h2 (c := c) hc
  refine ⟨w, ?_, hr2, fun a h => (hon a h).trans ((p_up_a _ _ _ h).trans (p_up_a _ _ _ h))⟩
  have e102 : zup v r ((sCh ρ).getD c 0) (nI 2) r 102 = nI (sSc ρ 3) := by rw [p_up_n _ _ (Or.inr (by omega))]; exact h102
  unfold fX10_leaves
  simp (disch := omega) only [↓reduceIte, i_0, i_1, i_2, i_3, i_4, i_5, i_6, i_7, i_8, i_9, i_10, i_11, i_12, i_13, i_14, i_15, i_16, i_17, i_18, i_19, i_20, i_21, i_22, i_23, i_24, i_25, i_26, i_27, i_28, i_29, i_30, i_31, i_32, i_33, i_34, i_35, i_36, i_37, i_38, i_39, i_40, i_41, i_42, i_43, i_44, i_45, i_46, i_47, i_48, i_49, i_50, i_51, i_52, i_53, i_54, i_55, i_56, i_57, i_58, i_59, i_60, i_61, i_62, i_63, i_91, i_93, i_97, i_98, i_99, i_100, i_101, i_102, i_103, i_104, i_122, i_150, i_200, i_255, i_305, i_600, i_729, i_999, i_1365, i_12345, i_32767, i_65536, i_100000, i_1000000, i_1103515245, zlet_eq, zbind_some, zbindv_some, ofN_nI, nI_add, pk_mul, nI_sub', nI_addg, gg_sub, nI_cl', zix_nI, rf_116_9, rf_116_10, rf_116_11, rf_116_12, rf_116_13, rf_116_14, rf_116_15, rf_116_16, rf_116_17, rf_116_18, rf_116_19, rf_116_20, rf_116_21, rf_116_22, rf_116_23, rf_116_24, rf_116_28, rf_116_29, rf_116_30, rf_116_31, rf_116_32, rf_116_33, rf_116_34, rf_116_35, rf_116_36, rf_116_37, rf_116_38, rf_116_39, rf_116_43, rf_116_49, rf_116_51, rf_116_54, rf_116_55, rf_116_56, rf_116_59, ln_127, ln_144, ln_161, ln_174, ln_187, ln_200, ln_213, ln_374, ln_535, ln_548, ln_561, ln_572, ln_577, ln_582, ln_117, ln_118, ln_119, ln_120, ln_121, ln_122, ln_123, ln_124, ln_125, ln_126, ln_565, ln_566, ln_567, ln_568, ln_569, ln_570, ln_571, ln_576, ln_600, ln_601, ln_602, ln_603, hlr, hch, Nat.zero_add, e102]
  rw [hw, zbindv_some]
theorem p_mDies41 {α : sA} (ha : okA α) {r : Nat} (hr : rowM r) {n0 : Nat} (hn0 : n0 ≤ 13) (c : Nat) (hc : c < 2 ^ 31 - 100) : ∀ (d n : Nat) (ρ : sR) (v : zV), (sCh ρ).length - c ≤ d → d < n → pMA v α → MR r v ρ → okW α n0 ρ → ∃ w, fX10_dies_41 n 116 r (nI c) v = some w ∧ MR r w (sFall α c d ρ) ∧ ∀ a, a ≠ r → w a = v a := by
  have hlr := hr.1
  have hr5 := hr.2.1
  intro d
  induction d with
  | zero =>
    intro n ρ v hd hn hE h ho
    obtain ⟨n, rfl⟩ : ∃ k, n = k + 1 := ⟨n - 1, by omega⟩
    refine ⟨v, ?_, h, fun _ _ => rfl⟩
    have h61 := h.1.1
    rw [fX10_dies_41]
    dsimp only
    by_cases h0 : nI c ≤ 0
    · rw [if_pos h0]
    · rw [if_neg h0]
      simp (disch := omega) only [↓reduceIte, i_0, i_1, i_2, i_3, i_4, i_5, i_6, i_7, i_8, i_9, i_10, i_11, i_12, i_13, i_14, i_15, i_16, i_17, i_18, i_19, i_20, i_21, i_22, i_23, i_24, i_25, i_26, i_27, i_28, i_29, i_30, i_31, i_32, i_33, i_34, i_35, i_36, i_37, i_38, i_39, i_40, i_41, i_42, i_43, i_44, i_45, i_46, i_47, i_48, i_49, i_50, i_51, i_52, i_53, i_54, i_55, i_56, i_57, i_58, i_59, i_60, i_61, i_62, i_63, i_91, i_93, i_97, i_98, i_99, i_100, i_101, i_102, i_103, i_104, i_122, i_150, i_200, i_255, i_305, i_600, i_729, i_999, i_1365, i_12345, i_32767, i_65536, i_100000, i_1000000, i_1103515245, zlet_eq, zbind_some, zbindv_some, ofN_nI, nI_add, pk_mul, nI_sub', nI_addg, gg_sub, nI_cl', zix_nI, rf_116_9, rf_116_10, rf_116_11, rf_116_12, rf_116_13, rf_116_14, rf_116_15, rf_116_16, rf_116_17, rf_116_18, rf_116_19, rf_116_20, rf_116_21, rf_116_22, rf_116_23, rf_116_24, rf_116_28, rf_116_29, rf_116_30, rf_116_31, rf_116_32, rf_116_33, rf_116_34, rf_116_35, rf_116_36, rf_116_37, rf_116_38, rf_116_39, rf_116_43, rf_116_49, rf_116_51, rf_116_54, rf_116_55, rf_116_56, rf_116_59, ln_127, ln_144, ln_161, ln_174, ln_187, ln_200, ln_213, ln_374, ln_535, ln_548, ln_561, ln_572, ln_577, ln_582, ln_117, ln_118, ln_119, ln_120, ln_121, ln_122, ln_123, ln_124, ln_125, ln_126, ln_565, ln_566, ln_567, ln_568, ln_569, ln_570, ln_571, ln_576, ln_600, ln_601, ln_602, ln_603, hlr, h61]
      rw [if_pos (nI_le (by omega) (by omega))]
  | succ d ih =>
    intro n ρ v hd hn hE h ho
    obtain ⟨n, rfl⟩ : ∃ k, n = k + 1 := ⟨n - 1, by omega⟩
    have hoC := okW_C ha hn0 ho
    have h13 := hoC.1
    have h61 := h.1.1
    rw [fX10_dies_41]
    dsimp only
    rw [sFall]
    rcases Nat.eq_zero_or_pos c with h0 | h0
    · rw [h0, if_pos (by decide), if_neg (by omega)]
      exact ⟨v, rfl, h, fun _ _ => rfl⟩
    · rw [if_neg (nI_nle h0 (by omega))]
      by_cases h1 : c < (sCh ρ).length
      · have c1 := h.2.2.2.2.1 (c - 1) (by omega)
        have c2 := h.2.2.2.2.1 c h1
        have hdf := p_mDiffers hE ha (okW_lt ho (getD_mem (show c - 1 < (sCh ρ).length by omega))) (okW_lt ho (getD_mem h1))
        have hdl := sDf_le α ((sCh ρ).getD (c - 1) 0) ((sCh ρ).getD c 0)
        have hQ := ha.1.1
        have e1 : 48 + c - 1 = 48 + (c - 1) := by omega
        simp (disch := omega) only [↓reduceIte, i_0, i_1, i_2, i_3, i_4, i_5, i_6, i_7, i_8, i_9, i_10, i_11, i_12, i_13, i_14, i_15, i_16, i_17, i_18, i_19, i_20, i_21, i_22, i_23, i_24, i_25, i_26, i_27, i_28, i_29, i_30, i_31, i_32, i_33, i_34, i_35, i_36, i_37, i_38, i_39, i_40, i_41, i_42, i_43, i_44, i_45, i_46, i_47, i_48, i_49, i_50, i_51, i_52, i_53, i_54, i_55, i_56, i_57, i_58, i_59, i_60, i_61, i_62, i_63, i_91, i_93, i_97, i_98, i_99, i_100, i_101, i_102, i_103, i_104, i_122, i_150, i_200, i_255, i_305, i_600, i_729, i_999, i_1365, i_12345, i_32767, i_65536, i_100000, i_1000000, i_1103515245, zlet_eq, zbind_some, zbindv_some, ofN_nI, nI_add, pk_mul, nI_sub', nI_addg, gg_sub, nI_cl', zix_nI, rf_116_9, rf_116_10, rf_116_11, rf_116_12, rf_116_13, rf_116_14, rf_116_15, rf_116_16, rf_116_17, rf_116_18, rf_116_19, rf_116_20, rf_116_21, rf_116_22, rf_116_23, rf_116_24, rf_116_28, rf_116_29, rf_116_30, rf_116_31, rf_116_32, rf_116_33, rf_116_34, rf_116_35, rf_116_36, rf_116_37, rf_116_38, rf_116_39, rf_116_43, rf_116_49, rf_116_51, rf_116_54, rf_116_55, rf_116_56, rf_116_59, ln_127, ln_144, ln_161, ln_174, ln_187, ln_200, ln_213, ln_374, ln_535, ln_548, ln_561, ln_572, ln_577, ln_582, ln_117, ln_118, ln_119, ln_120, ln_121, ln_122, ln_123, ln_124, ln_125, ln_126, ln_565, ln_566, ln_567, ln_568, ln_569, ln_570, ln_571, ln_576, ln_600, ln_601, ln_602, ln_603, hlr, h61, e1, c1, c2, hdf]
        rw [if_neg (nI_ge h1 (by omega))]
        by_cases e : sDf α ((sCh ρ).getD (c - 1) 0) ((sCh ρ).getD c 0) = 0
        · rw [e, if_pos rfl, if_pos ⟨h0, h1, rfl⟩]
          obtain ⟨w, hw, hwr, hon⟩ := p_mLeaves hr h hoC h1
          have hlen : (sCh (sLeave ρ c)).length = (sCh ρ).length - 1 := by
            show ((sCh ρ).eraseIdx c).length = _
            rw [List.length_eraseIdx, if_pos h1]
          have ho2 : okW α n0 (sLeave ρ c) := by
            have := okB_leave ho h1
            unfold okW
            rw [sLeave_sc ρ c (k := 0) (by decide)]
            exact this
          obtain ⟨u, hu, hur, huon⟩ := ih n (sLeave ρ c) w (by omega) (by omega) (MA_fr hE ha (fun a g1 g2 => hon a (by omega))) hwr ho2
          exact ⟨u, by rw [hw, zbindv_some]; exact hu, hur, fun a g => (huon a g).trans (hon a g)⟩
        · rw [if_neg (show ¬ nI (sDf α ((sCh ρ).getD (c - 1) 0) ((sCh ρ).getD c 0)) = nI 0 from nI_ne0 (by omega) (by omega)), if_neg (fun q => e q.2.2)]
          exact ⟨v, rfl, h, fun _ _ => rfl⟩
      · simp (disch := omega) only [↓reduceIte, i_0, i_1, i_2, i_3, i_4, i_5, i_6, i_7, i_8, i_9, i_10, i_11, i_12, i_13, i_14, i_15, i_16, i_17, i_18, i_19, i_20, i_21, i_22, i_23, i_24, i_25, i_26, i_27, i_28, i_29, i_30, i_31, i_32, i_33, i_34, i_35, i_36, i_37, i_38, i_39, i_40, i_41, i_42, i_43, i_44, i_45, i_46, i_47, i_48, i_49, i_50, i_51, i_52, i_53, i_54, i_55, i_56, i_57, i_58, i_59, i_60, i_61, i_62, i_63, i_91, i_93, i_97, i_98, i_99, i_100, i_101, i_102, i_103, i_104, i_122, i_150, i_200, i_255, i_305, i_600, i_729, i_999, i_1365, i_12345, i_32767, i_65536, i_100000, i_1000000, i_1103515245, zlet_eq, zbind_some, zbindv_some, ofN_nI, nI_add, pk_mul, nI_sub', nI_addg, gg_sub, nI_cl', zix_nI, rf_116_9, rf_116_10, rf_116_11, rf_116_12, rf_116_13, rf_116_14, rf_116_15, rf_116_16, rf_116_17, rf_116_18, rf_116_19, rf_116_20, rf_116_21, rf_116_22, rf_116_23, rf_116_24, rf_116_28, rf_116_29, rf_116_30, rf_116_31, rf_116_32, rf_116_33, rf_116_34, rf_116_35, rf_116_36, rf_116_37, rf_116_38, rf_116_39, rf_116_43, rf_116_49, rf_116_51, rf_116_54, rf_116_55, rf_116_56, rf_116_59, ln_127, ln_144, ln_161, ln_174, ln_187, ln_200, ln_213, ln_374, ln_535, ln_548, ln_561, ln_572, ln_577, ln_582, ln_117, ln_118, ln_119, ln_120, ln_121, ln_122, ln_123, ln_124, ln_125, ln_126, ln_565, ln_566, ln_567, ln_568, ln_569, ln_570, ln_571, ln_576, ln_600, ln_601, ln_602, ln_603, hlr, h61]
        rw [if_pos (nI_le (by omega) (by omega)), if_neg (fun q => h1 q.2.1)]
        exact ⟨v, rfl, h, fun _ _ => rfl⟩
theorem p_mDies {α : sA} (ha : okA α) {r : Nat} (hr : rowM r) {n : Nat} (hn : n ≤ 13) {v : zV} {ρ : sR} (hE : pMA v α) (h : MR r v ρ) (ho : okW α n ρ) {m : Nat} (hm : m < α 0 1) : ∃ w, fX10_dies 116 r (nI m) v = some w ∧ MR r w (sKill α ρ m) ∧ ∀ a, a ≠ r → w a = v a := by
  have hoC := okW_C ha hn ho
  have h13 := hoC.1
  have hM := ha.1.2.1
  have hlr := hr.1
  have hr5 := hr.2.1
  have hst := h.2.1 m (by omega)
  have hs4 := ho.2.2.2.1 m
  have h103 := h.1.2.2.2.2.2.2
  have hch := p_mChair hr h hoC (m := m) (by omega)
  unfold fX10_dies
  have e103 : zup v r m (nI 3) r 103 = nI (sSc ρ 4) := by rw [p_up_n _ _ (Or.inr (by omega))]; exact h103
  simp (disch := omega) only [↓reduceIte, i_0, i_1, i_2, i_3, i_4, i_5, i_6, i_7, i_8, i_9, i_10, i_11, i_12, i_13, i_14, i_15, i_16, i_17, i_18, i_19, i_20, i_21, i_22, i_23, i_24, i_25, i_26, i_27, i_28, i_29, i_30, i_31, i_32, i_33, i_34, i_35, i_36, i_37, i_38, i_39, i_40, i_41, i_42, i_43, i_44, i_45, i_46, i_47, i_48, i_49, i_50, i_51, i_52, i_53, i_54, i_55, i_56, i_57, i_58, i_59, i_60, i_61, i_62, i_63, i_91, i_93, i_97, i_98, i_99, i_100, i_101, i_102, i_103, i_104, i_122, i_150, i_200, i_255, i_305, i_600, i_729, i_999, i_1365, i_12345, i_32767, i_65536, i_100000, i_1000000, i_1103515245, zlet_eq, zbind_some, zbindv_some, ofN_nI, nI_add, pk_mul, nI_sub', nI_addg, gg_sub, nI_cl', zix_nI, rf_116_9, rf_116_10, rf_116_11, rf_116_12, rf_116_13, rf_116_14, rf_116_15, rf_116_16, rf_116_17, rf_116_18, rf_116_19, rf_116_20, rf_116_21, rf_116_22, rf_116_23, rf_116_24, rf_116_28, rf_116_29, rf_116_30, rf_116_31, rf_116_32, rf_116_33, rf_116_34, rf_116_35, rf_116_36, rf_116_37, rf_116_38, rf_116_39, rf_116_43, rf_116_49, rf_116_51, rf_116_54, rf_116_55, rf_116_56, rf_116_59, ln_127, ln_144, ln_161, ln_174, ln_187, ln_200, ln_213, ln_374, ln_535, ln_548, ln_561, ln_572, ln_577, ln_582, ln_117, ln_118, ln_119, ln_120, ln_121, ln_122, ln_123, ln_124, ln_125, ln_126, ln_565, ln_566, ln_567, ln_568, ln_569, ln_570, ln_571, ln_576, ln_600, ln_601, ln_602, ln_603, hlr, hst, Nat.zero_add, hch, e103, nI_eq']
  unfold sKill
  by_cases h3 : sSt ρ m = 3
  · rw [if_pos h3, if_pos h3]
    exact ⟨v, rfl, h, fun _ _ => rfl⟩
  · rw [if_neg h3, if_neg h3]
    have hd : MR r (zup (zup v r m (nI 3)) r 103 (nI (sSc ρ 4 + 1))) (sDead ρ m) := by
      unfold MR
      rw [zupRow, zupRow]
      exact MRf_sc (MRf_st h (by omega) 3) (k := 103) (j := 4) (Or.inr (Or.inr (Or.inr ⟨rfl, rfl⟩))) _
    have hdon : ∀ a, a ≠ r → zup (zup v r m (nI 3)) r 103 (nI (sSc ρ 4 + 1)) a = v a := fun a g => (p_up_a _ _ _ g).trans (p_up_a _ _ _ g)
    generalize zup (zup v r m (nI 3)) r 103 (nI (sSc ρ 4 + 1)) = u at hd hdon
    cases hx : sIx (sCh ρ) m with
    | none =>
      rw [oI_none, if_pos rfl]
      exact ⟨u, rfl, hd, hdon⟩
    | some c =>
      obtain ⟨hc, hcm⟩ := sIx_some hx
      rw [oI_some, if_neg (fun q => by rw [ng_eq (by omega) (by decide) (by decide)] at q; exact q)]
      obtain ⟨w, hw, hwr, hon⟩ := p_mRises hr hd (c := c) hc
      have hog : okW α n (sGap (sDead ρ m) c) := by
        have := okB_gap ho hx
        unfold okW
        rw [sGap_sc ρ m c (k := 0) (by decide)]
        exact this
      have hlen : (sCh (sGap (sDead ρ m) c)).length = (sCh ρ).length - 1 := by
        show ((sCh ρ).eraseIdx c).length = _
        rw [List.length_eraseIdx, if_pos hc]
      obtain ⟨t, ht, htr, hton⟩ := p_mDies41 ha hr hn c (by omega) 13 zFU (sGap (sDead ρ m) c) w (by omega) (by unfold zFU; omega) (MA_fr hE ha (fun a g1 g2 => (hon a (by omega)).trans (hdon a (by omega)))) hwr hog
      exact ⟨t, by rw [hw, zbindv_some]; exact ht, htr, fun a g => (hton a g).trans ((hon a g).trans (hdon a g))⟩
/-- a death more: of man x in year y -/
def sMore (α : sA) (mo : Option (Nat × Nat)) (ρ : sR) : sR := match mo with
  | none => ρ
  | some (y, x) => if y = sSc ρ 0 then sKill α ρ x else ρ
def MO (v : zV) (α : sA) (mo : Option (Nat × Nat)) : Prop := match mo with
  | none => v 116 46 = -nI 1
  | some (y, x) => v 116 46 = nI x ∧ v 116 45 = nI y ∧ x < α 0 1 ∧ y < 1000
theorem p_mDeaths {α : sA} (ha : okA α) {r : Nat} (hr : rowM r) {n : Nat} (hn : n ≤ 13) {v : zV} {ρ : sR} (hE : pMA v α) (h : MR r v ρ) (ho : okW α n ρ) {mo : Option (Nat × Nat)} (hmo : MO v α mo) : ∃ w, fX10_deathsOf 116 r v = some w ∧ MR r w (sMore α mo (sTell α ρ)) ∧ okW α n (sMore α mo (sTell α ρ)) ∧ ∀ a, a ≠ r → w a = v a := by
  have hM := ha.1.2.1
  have hD := ha.1.2.2.2.2.2.1
  have hlr := hr.1
  have hr5 := hr.2.1
  unfold fX10_deathsOf sTell
  refine lpR (fun n j (_ : sR) v => fX10_deathsOf_2 n 116 r (nI j) v) (fun k ρ => if α (30 + k) 0 = sSc ρ 0 then sKill α ρ (α (30 + k) 1) else ρ) (α 0 4) (fun _ ρ w => MR r w ρ ∧ okW α n ρ ∧ ∀ a, a ≠ r → w a = v a) (fun ρ w => MR r w (sMore α mo ρ) ∧ okW α n (sMore α mo ρ) ∧ ∀ a, a ≠ r → w a = v a) (fun n1 s w hK => ?_) (fun n1 j s w hj hK => ?_) (α 0 4) zFU 0 ρ v (Nat.zero_add _) (by unfold zFU; omega) ⟨h, ho, fun _ _ => rfl⟩
  · obtain ⟨hR, hoW, hon⟩ := hK
    have h120 : w 120 4 = nI (α 0 4) := by rw [hon 120 (by omega)]; exact hE.1 4 (by decide)
    have h46 : w 116 46 = v 116 46 := by rw [hon 116 (by omega)]
    have h45 : w 116 45 = v 116 45 := by rw [hon 116 (by omega)]
    have h99 := hR.1.2.2.1
    have hys := hoW.2.2.2.2.2.1
    show ∃ u, fX10_deathsOf_2 (n1 + 1) 116 r (nI (α 0 4)) w = some u ∧ _
    rw [fX10_deathsOf_2]
    dsimp only
    simp (disch := omega) only [↓reduceIte, i_0, i_1, i_2, i_3, i_4, i_5, i_6, i_7, i_8, i_9, i_10, i_11, i_12, i_13, i_14, i_15, i_16, i_17, i_18, i_19, i_20, i_21, i_22, i_23, i_24, i_25, i_26, i_27, i_28, i_29, i_30, i_31, i_32, i_33, i_34, i_35, i_36, i_37, i_38, i_39, i_40, i_41, i_42, i_43, i_44, i_45, i_46, i_47, i_48, i_49, i_50, i_51, i_52, i_53, i_54, i_55, i_56, i_57, i_58, i_59, i_60, i_61, i_62, i_63, i_91, i_93, i_97, i_98, i_99, i_100, i_101, i_102, i_103, i_104, i_122, i_150, i_200, i_255, i_305, i_600, i_729, i_999, i_1365, i_12345, i_32767, i_65536, i_100000, i_1000000, i_1103515245, zlet_eq, zbind_some, zbindv_some, ofN_nI, nI_add, pk_mul, nI_sub', nI_addg, gg_sub, nI_cl', zix_nI, rf_116_9, rf_116_10, rf_116_11, rf_116_12, rf_116_13, rf_116_14, rf_116_15, rf_116_16, rf_116_17, rf_116_18, rf_116_19, rf_116_20, rf_116_21, rf_116_22, rf_116_23, rf_116_24, rf_116_28, rf_116_29, rf_116_30, rf_116_31, rf_116_32, rf_116_33, rf_116_34, rf_116_35, rf_116_36, rf_116_37, rf_116_38, rf_116_39, rf_116_43, rf_116_49, rf_116_51, rf_116_54, rf_116_55, rf_116_56, rf_116_59, ln_127, ln_144, ln_161, ln_174, ln_187, ln_200, ln_213, ln_374, ln_535, ln_548, ln_561, ln_572, ln_577, ln_582, ln_117, ln_118, ln_119, ln_120, ln_121, ln_122, ln_123, ln_124, ln_125, ln_126, ln_565, ln_566, ln_567, ln_568, ln_569, ln_570, ln_571, ln_576, ln_600, ln_601, ln_602, ln_603, h120]
    rw [if_pos (Int32.le_refl _)]
    unfold fX10_deathsOf_46 sMore
    cases mo with
    | none =>
      have hmo' : v 116 46 = -nI 1 := hmo
      rw [h46, hmo', if_pos (show -nI 1 = (-1 : Int32) from rfl)]
      exact ⟨w, rfl, hR, hoW, hon⟩
    | some p =>
      obtain ⟨y, x⟩ := p
      obtain ⟨g1, g2, g3, g4⟩ := hmo
      rw [h46, g1, if_neg (show ¬ nI x = -1 from fun q => by rw [show (-1 : Int32) = -nI 1 from rfl, ng_eq (by omega) (by decide) (by decide)] at q; exact q), h45, g2]
      simp (disch := omega) only [↓reduceIte, i_0, i_1, i_2, i_3, i_4, i_5, i_6, i_7, i_8, i_9, i_10, i_11, i_12, i_13, i_14, i_15, i_16, i_17, i_18, i_19, i_20, i_21, i_22, i_23, i_24, i_25, i_26, i_27, i_28, i_29, i_30, i_31, i_32, i_33, i_34, i_35, i_36, i_37, i_38, i_39, i_40, i_41, i_42, i_43, i_44, i_45, i_46, i_47, i_48, i_49, i_50, i_51, i_52, i_53, i_54, i_55, i_56, i_57, i_58, i_59, i_60, i_61, i_62, i_63, i_91, i_93, i_97, i_98, i_99, i_100, i_101, i_102, i_103, i_104, i_122, i_150, i_200, i_255, i_305, i_600, i_729, i_999, i_1365, i_12345, i_32767, i_65536, i_100000, i_1000000, i_1103515245, zlet_eq, zbind_some, zbindv_some, ofN_nI, nI_add, pk_mul, nI_sub', nI_addg, gg_sub, nI_cl', zix_nI, rf_116_9, rf_116_10, rf_116_11, rf_116_12, rf_116_13, rf_116_14, rf_116_15, rf_116_16, rf_116_17, rf_116_18, rf_116_19, rf_116_20, rf_116_21, rf_116_22, rf_116_23, rf_116_24, rf_116_28, rf_116_29, rf_116_30, rf_116_31, rf_116_32, rf_116_33, rf_116_34, rf_116_35, rf_116_36, rf_116_37, rf_116_38, rf_116_39, rf_116_43, rf_116_49, rf_116_51, rf_116_54, rf_116_55, rf_116_56, rf_116_59, ln_127, ln_144, ln_161, ln_174, ln_187, ln_200, ln_213, ln_374, ln_535, ln_548, ln_561, ln_572, ln_577, ln_582, ln_117, ln_118, ln_119, ln_120, ln_121, ln_122, ln_123, ln_124, ln_125, ln_126, ln_565, ln_566, ln_567, ln_568, ln_569, ln_570, ln_571, ln_576, ln_600, ln_601, ln_602, ln_603, hlr, h99, nI_eq']
      by_cases e : y = sSc s 0
      · rw [if_pos e, if_pos e]
        obtain ⟨u, hu, hur, huon⟩ := p_mDies ha hr hn (MA_fr hE ha (fun a g1 g2 => hon a (by omega))) hR hoW g3
        rw [hu, zbindv_some]
        exact ⟨u, rfl, hur, okW_kill hoW g3, fun a g => (huon a g).trans (hon a g)⟩
      · rw [if_neg e, if_neg e]
        exact ⟨w, rfl, hR, hoW, hon⟩
  · obtain ⟨hR, hoW, hon⟩ := hK
    have hEw : pMA w α := MA_fr hE ha (fun a g1 g2 => hon a (by omega))
    have h120 := hEw.1 4 (by decide)
    obtain ⟨g1, g2, g3⟩ := ha.2.2.2.2.2.2.1 j hj
    have hys := hoW.2.2.2.2.2.1
    have h99 := hR.1.2.2.1
    have ra := rfa_174 j (by omega)
    have la := lna_174 j (by omega)
    have d0 := hEw.2.2.2.2.2.1 j hj 0 (by decide)
    have d1 := hEw.2.2.2.2.2.1 j hj 1 (by decide)
    show ∃ u, fX10_deathsOf_2 (n1 + 1) 116 r (nI j) w = fX10_deathsOf_2 n1 116 r (nI (j + 1)) u ∧ _
    rw [fX10_deathsOf_2]
    dsimp only
    simp (disch := omega) only [↓reduceIte, i_0, i_1, i_2, i_3, i_4, i_5, i_6, i_7, i_8, i_9, i_10, i_11, i_12, i_13, i_14, i_15, i_16, i_17, i_18, i_19, i_20, i_21, i_22, i_23, i_24, i_25, i_26, i_27, i_28, i_29, i_30, i_31, i_32, i_33, i_34, i_35, i_36, i_37, i_38, i_39, i_40, i_41, i_42, i_43, i_44, i_45, i_46, i_47, i_48, i_49, i_50, i_51, i_52, i_53, i_54, i_55, i_56, i_57, i_58, i_59, i_60, i_61, i_62, i_63, i_91, i_93, i_97, i_98, i_99, i_100, i_101, i_102, i_103, i_104, i_122, i_150, i_200, i_255, i_305, i_600, i_729, i_999, i_1365, i_12345, i_32767, i_65536, i_100000, i_1000000, i_1103515245, zlet_eq, zbind_some, zbindv_some, ofN_nI, nI_add, pk_mul, nI_sub', nI_addg, gg_sub, nI_cl', zix_nI, rf_116_9, rf_116_10, rf_116_11, rf_116_12, rf_116_13, rf_116_14, rf_116_15, rf_116_16, rf_116_17, rf_116_18, rf_116_19, rf_116_20, rf_116_21, rf_116_22, rf_116_23, rf_116_24, rf_116_28, rf_116_29, rf_116_30, rf_116_31, rf_116_32, rf_116_33, rf_116_34, rf_116_35, rf_116_36, rf_116_37, rf_116_38, rf_116_39, rf_116_43, rf_116_49, rf_116_51, rf_116_54, rf_116_55, rf_116_56, rf_116_59, ln_127, ln_144, ln_161, ln_174, ln_187, ln_200, ln_213, ln_374, ln_535, ln_548, ln_561, ln_572, ln_577, ln_582, ln_117, ln_118, ln_119, ln_120, ln_121, ln_122, ln_123, ln_124, ln_125, ln_126, ln_565, ln_566, ln_567, ln_568, ln_569, ln_570, ln_571, ln_576, ln_600, ln_601, ln_602, ln_603, hlr, h120, h99, ra, la, d0, d1, nI_eq']
    rw [if_neg (nI_ge hj (by omega))]
    by_cases e : α (30 + j) 0 = sSc s 0
    · rw [if_pos e, if_pos e]
      obtain ⟨u, hu, hur, huon⟩ := p_mDies ha hr hn hEw hR hoW g3
      rw [hu, zbindv_some]
      exact ⟨u, rfl, hur, okW_kill hoW g3, fun a g => (huon a g).trans (hon a g)⟩
    · rw [if_neg e, if_neg e]
      exact ⟨w, rfl, hR, hoW, hon⟩
end
