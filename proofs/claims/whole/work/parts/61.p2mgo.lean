/-! the reference: scores, whoever is chosen, deaths, a year -/
section
theorem p_mBy {w : Nat} (hw : 2 ≤ w) (h8 : w < 8) (a b : Int32) (v : zV) : fX10_by (nI w) a b v = some (sBy w a b, v) := by
  have hc : w = 2 ∨ w = 3 ∨ w = 4 ∨ w = 5 ∨ w = 6 ∨ w = 7 := by omega
  unfold fX10_by
  rcases hc with rfl | rfl | rfl | rfl | rfl | rfl
  · simp (disch := omega) only [i_2, i_3, i_4, i_5, i_6, nI_eq', sBy, Nat.reduceEqDiff, ↓reduceIte]
  · simp (disch := omega) only [i_2, i_3, i_4, i_5, i_6, nI_eq', sBy, Nat.reduceEqDiff, ↓reduceIte]
  · simp (disch := omega) only [i_2, i_3, i_4, i_5, i_6, nI_eq', sBy, Nat.reduceEqDiff, ↓reduceIte]
  · simp (disch := omega) only [i_2, i_3, i_4, i_5, i_6, nI_eq', sBy, Nat.reduceEqDiff, ↓reduceIte]
    by_cases hb : b = 0
    · rw [if_pos hb, if_pos hb]
    · rw [if_neg hb, if_neg hb]
      by_cases h1 : b = -1
      · rw [if_pos h1, sBy_div a b h1]
      · rw [if_neg h1]
        unfold znz
        rw [if_neg hb]
  · simp (disch := omega) only [i_2, i_3, i_4, i_5, i_6, nI_eq', sBy, Nat.reduceEqDiff, ↓reduceIte]
    unfold fX10_less
    by_cases h : b ≤ a
    · rw [if_pos h, if_pos h]; rfl
    · rw [if_neg h, if_neg h]; rfl
  · simp (disch := omega) only [i_2, i_3, i_4, i_5, i_6, nI_eq', sBy, Nat.reduceEqDiff, ↓reduceIte]
    unfold fX10_more
    by_cases h : a ≤ b
    · rw [if_pos h, if_pos h]; rfl
    · rw [if_neg h, if_neg h]; rfl
theorem p_mByLawL {l : sL} (hl : l.length ≤ 150) (f : Nat → Int32) : ∀ (t : sL) (k n : Nat) (st : List Int32) (v : zV), l.drop k = t → k ≤ l.length → v 116 26 = nI l.length → (∀ k, k < l.length → v (214 + k) 0 = nI (l.getD k (0, 0)).1 ∧ v (214 + k) 1 = nI (l.getD k (0, 0)).2) → (∀ x, x < 7 → v 566 x = f x) → pSK (v 565) st → wfL t st.length → st.length + t.length ≤ 150 → t.length < n → ∃ w, fX10_byLaw_28 n 116 (nI st.length) (nI k) v = some ((sEv f t st).headD 0, w) ∧ ∀ a, a ≠ 565 → w a = v a := by
  intro t
  induction t with
  | nil =>
    intro k n st v hd hkl hC hC2 hf hs hw h5 hn
    obtain ⟨n, rfl⟩ : ∃ k, n = k + 1 := ⟨n - 1, by omega⟩
    have hk : k = l.length := by
      rcases Nat.lt_or_ge k l.length with hk | hk
      · rw [List.drop_eq_getElem_cons hk] at hd; cases hd
      · omega
    subst hk
    have hw1 : st.length = 1 := hw
    refine ⟨v, ?_, fun _ _ => rfl⟩
    rw [fX10_byLaw_28]
    dsimp only
    match st, hs, hw1 with
    | [x], hs, _ =>
      have e0 : v 565 0 = x := hs.1
      rw [hC, if_pos (Int32.le_refl _)]
      simp (disch := omega) only [i_0, i_1, i_2, i_3, i_4, i_5, i_6, i_7, i_8, i_9, i_10, i_11, i_12, i_13, i_14, i_15, i_16, i_17, i_18, i_19, i_20, i_21, i_22, i_23, i_24, i_25, i_26, i_27, i_28, i_29, i_30, i_31, i_32, i_33, i_34, i_35, i_36, i_37, i_38, i_39, i_40, i_41, i_42, i_43, i_44, i_45, i_46, i_47, i_48, i_49, i_50, i_51, i_52, i_53, i_54, i_55, i_56, i_57, i_58, i_59, i_60, i_61, i_62, i_63, i_91, i_93, i_97, i_98, i_99, i_100, i_101, i_102, i_103, i_104, i_122, i_150, i_200, i_255, i_305, i_600, i_729, i_999, i_1365, i_12345, i_32767, i_65536, i_100000, i_1000000, i_1103515245, zlet_eq, zbind_some, zbindv_some, ofN_nI, nI_add, pk_mul, nI_sub', nI_addg, gg_sub, nI_cl', zix_nI, rf_116_9, rf_116_10, rf_116_11, rf_116_12, rf_116_13, rf_116_14, rf_116_15, rf_116_16, rf_116_17, rf_116_18, rf_116_19, rf_116_20, rf_116_21, rf_116_22, rf_116_23, rf_116_24, rf_116_28, rf_116_29, rf_116_30, rf_116_31, rf_116_32, rf_116_33, rf_116_34, rf_116_35, rf_116_36, rf_116_37, rf_116_38, rf_116_39, rf_116_43, rf_116_49, rf_116_51, rf_116_54, rf_116_55, rf_116_56, rf_116_59, ln_127, ln_144, ln_161, ln_174, ln_187, ln_200, ln_213, ln_374, ln_535, ln_548, ln_561, ln_572, ln_577, ln_582, ln_117, ln_118, ln_119, ln_120, ln_121, ln_122, ln_123, ln_124, ln_125, ln_126, ln_565, ln_566, ln_567, ln_568, ln_569, ln_570, ln_571, ln_576, ln_600, ln_601, ln_602, ln_603, e0]
      rfl
  | cons p t ih =>
    intro k n st v hd hkl hC hC2 hf hs hw h5 hn
    obtain ⟨n, rfl⟩ : ∃ k, n = k + 1 := ⟨n - 1, by omega⟩
    obtain ⟨hk, hp, hd2⟩ := getD_drop hd
    obtain ⟨hs0, hs1⟩ := hC2 k hk
    rw [hp] at hs0 hs1
    obtain ⟨w, x⟩ := p
    replace hs0 : v (214 + k) 0 = nI w := hs0
    replace hs1 : v (214 + k) 1 = nI x := hs1
    rw [List.length_cons] at h5 hn
    have ra := rfa_213 k (by omega)
    have la := lna_213 k (by omega)
    rw [fX10_byLaw_28]
    dsimp only
    simp (disch := omega) only [i_0, i_1, i_2, i_3, i_4, i_5, i_6, i_7, i_8, i_9, i_10, i_11, i_12, i_13, i_14, i_15, i_16, i_17, i_18, i_19, i_20, i_21, i_22, i_23, i_24, i_25, i_26, i_27, i_28, i_29, i_30, i_31, i_32, i_33, i_34, i_35, i_36, i_37, i_38, i_39, i_40, i_41, i_42, i_43, i_44, i_45, i_46, i_47, i_48, i_49, i_50, i_51, i_52, i_53, i_54, i_55, i_56, i_57, i_58, i_59, i_60, i_61, i_62, i_63, i_91, i_93, i_97, i_98, i_99, i_100, i_101, i_102, i_103, i_104, i_122, i_150, i_200, i_255, i_305, i_600, i_729, i_999, i_1365, i_12345, i_32767, i_65536, i_100000, i_1000000, i_1103515245, zlet_eq, zbind_some, zbindv_some, ofN_nI, nI_add, pk_mul, nI_sub', nI_addg, gg_sub, nI_cl', zix_nI, rf_116_9, rf_116_10, rf_116_11, rf_116_12, rf_116_13, rf_116_14, rf_116_15, rf_116_16, rf_116_17, rf_116_18, rf_116_19, rf_116_20, rf_116_21, rf_116_22, rf_116_23, rf_116_24, rf_116_28, rf_116_29, rf_116_30, rf_116_31, rf_116_32, rf_116_33, rf_116_34, rf_116_35, rf_116_36, rf_116_37, rf_116_38, rf_116_39, rf_116_43, rf_116_49, rf_116_51, rf_116_54, rf_116_55, rf_116_56, rf_116_59, ln_127, ln_144, ln_161, ln_174, ln_187, ln_200, ln_213, ln_374, ln_535, ln_548, ln_561, ln_572, ln_577, ln_582, ln_117, ln_118, ln_119, ln_120, ln_121, ln_122, ln_123, ln_124, ln_125, ln_126, ln_565, ln_566, ln_567, ln_568, ln_569, ln_570, ln_571, ln_576, ln_600, ln_601, ln_602, ln_603, hC, ra, la, hs0, hs1]
    rw [if_neg (nI_ge hk (by omega))]
    unfold wfL at hw
    by_cases h2 : w < 2
    · rw [if_pos h2] at hw
      rw [if_neg (show ¬ nI 2 ≤ nI w from nI_ge h2 (by decide))]
      have hcont : ∀ y : Int32, y = (if w = 0 then nI x else f x) → ∃ u, fX10_byLaw_28 n 116 (nI (st.length + 1)) (nI (k + 1)) (zup v 565 st.length y) = some ((sEv f ((w, x) :: t) st).headD 0, u) ∧ ∀ a, a ≠ 565 → u a = v a := by
        intro y hy
        obtain ⟨u, hu, hu2⟩ := ih (k + 1) n (y :: st) (zup v 565 st.length y) hd2 (by omega) (by rw [p_up_a _ _ _ (by decide)]; exact hC) (fun j hj => by rw [p_up_a _ _ _ (by omega)]; exact hC2 j hj) (fun x hx => by rw [p_up_a _ _ _ (by decide)]; exact hf x hx) ⟨p_up_s _ _ _ _, SK_up st (fun j hj => p_up_n v _ (Or.inr (by omega))) hs⟩ hw.2 (by rw [List.length_cons]; omega) (by omega)
        refine ⟨u, ?_, fun a ha => (hu2 a ha).trans (p_up_a _ _ _ ha)⟩
        rw [List.length_cons] at hu
        rw [hu, sEv_push h2, ← hy]
      have hw01 : w = 0 ∨ w = 1 := by omega
      rcases hw01 with rfl | rfl
      · rw [if_pos rfl]
        exact hcont (nI x) rfl
      · have hx : x < 7 := hw.1.2 rfl
        have hfx := hf x hx
        rw [if_neg (show ¬ nI 1 = nI 0 by decide)]
        simp (disch := omega) only [i_0, i_1, i_2, i_3, i_4, i_5, i_6, i_7, i_8, i_9, i_10, i_11, i_12, i_13, i_14, i_15, i_16, i_17, i_18, i_19, i_20, i_21, i_22, i_23, i_24, i_25, i_26, i_27, i_28, i_29, i_30, i_31, i_32, i_33, i_34, i_35, i_36, i_37, i_38, i_39, i_40, i_41, i_42, i_43, i_44, i_45, i_46, i_47, i_48, i_49, i_50, i_51, i_52, i_53, i_54, i_55, i_56, i_57, i_58, i_59, i_60, i_61, i_62, i_63, i_91, i_93, i_97, i_98, i_99, i_100, i_101, i_102, i_103, i_104, i_122, i_150, i_200, i_255, i_305, i_600, i_729, i_999, i_1365, i_12345, i_32767, i_65536, i_100000, i_1000000, i_1103515245, zlet_eq, zbind_some, zbindv_some, ofN_nI, nI_add, pk_mul, nI_sub', nI_addg, gg_sub, nI_cl', zix_nI, rf_116_9, rf_116_10, rf_116_11, rf_116_12, rf_116_13, rf_116_14, rf_116_15, rf_116_16, rf_116_17, rf_116_18, rf_116_19, rf_116_20, rf_116_21, rf_116_22, rf_116_23, rf_116_24, rf_116_28, rf_116_29, rf_116_30, rf_116_31, rf_116_32, rf_116_33, rf_116_34, rf_116_35, rf_116_36, rf_116_37, rf_116_38, rf_116_39, rf_116_43, rf_116_49, rf_116_51, rf_116_54, rf_116_55, rf_116_56, rf_116_59, ln_127, ln_144, ln_161, ln_174, ln_187, ln_200, ln_213, ln_374, ln_535, ln_548, ln_561, ln_572, ln_577, ln_582, ln_117, ln_118, ln_119, ln_120, ln_121, ln_122, ln_123, ln_124, ln_125, ln_126, ln_565, ln_566, ln_567, ln_568, ln_569, ln_570, ln_571, ln_576, ln_600, ln_601, ln_602, ln_603, hfx]
        exact hcont (f x) rfl
    · rw [if_neg h2] at hw
      obtain ⟨h8, hl2, hw3⟩ := hw
      rw [if_pos (show nI 2 ≤ nI w from nI_le (by omega) (by omega))]
      match st, hs, hl2, hw3, h5 with
      | b :: a :: st', hs, hl2, hw3, h5 =>
        have hb : v 565 (st'.length + 1) = b := hs.1
        have ha : v 565 st'.length = a := hs.2.1
        have hby := p_mBy (w := w) (by omega) h8 a b v
        rw [List.length_cons, List.length_cons] at h5
        have e1 : st'.length + 1 + 1 - 1 = st'.length + 1 := by omega
        have e2 : st'.length + 1 - 1 = st'.length := by omega
        simp (disch := omega) only [i_0, i_1, i_2, i_3, i_4, i_5, i_6, i_7, i_8, i_9, i_10, i_11, i_12, i_13, i_14, i_15, i_16, i_17, i_18, i_19, i_20, i_21, i_22, i_23, i_24, i_25, i_26, i_27, i_28, i_29, i_30, i_31, i_32, i_33, i_34, i_35, i_36, i_37, i_38, i_39, i_40, i_41, i_42, i_43, i_44, i_45, i_46, i_47, i_48, i_49, i_50, i_51, i_52, i_53, i_54, i_55, i_56, i_57, i_58, i_59, i_60, i_61, i_62, i_63, i_91, i_93, i_97, i_98, i_99, i_100, i_101, i_102, i_103, i_104, i_122, i_150, i_200, i_255, i_305, i_600, i_729, i_999, i_1365, i_12345, i_32767, i_65536, i_100000, i_1000000, i_1103515245, zlet_eq, zbind_some, zbindv_some, ofN_nI, nI_add, pk_mul, nI_sub', nI_addg, gg_sub, nI_cl', zix_nI, rf_116_9, rf_116_10, rf_116_11, rf_116_12, rf_116_13, rf_116_14, rf_116_15, rf_116_16, rf_116_17, rf_116_18, rf_116_19, rf_116_20, rf_116_21, rf_116_22, rf_116_23, rf_116_24, rf_116_28, rf_116_29, rf_116_30, rf_116_31, rf_116_32, rf_116_33, rf_116_34, rf_116_35, rf_116_36, rf_116_37, rf_116_38, rf_116_39, rf_116_43, rf_116_49, rf_116_51, rf_116_54, rf_116_55, rf_116_56, rf_116_59, ln_127, ln_144, ln_161, ln_174, ln_187, ln_200, ln_213, ln_374, ln_535, ln_548, ln_561, ln_572, ln_577, ln_582, ln_117, ln_118, ln_119, ln_120, ln_121, ln_122, ln_123, ln_124, ln_125, ln_126, ln_565, ln_566, ln_567, ln_568, ln_569, ln_570, ln_571, ln_576, ln_600, ln_601, ln_602, ln_603, List.length_cons, e1, e2, hb, ha, hby]
        obtain ⟨u, hu, hu2⟩ := ih (k + 1) n (sBy w a b :: st') (zup v 565 st'.length (sBy w a b)) hd2 (by omega) (by rw [p_up_a _ _ _ (by decide)]; exact hC) (fun j hj => by rw [p_up_a _ _ _ (by omega)]; exact hC2 j hj) (fun x hx => by rw [p_up_a _ _ _ (by decide)]; exact hf x hx) ⟨p_up_s _ _ _ _, SK_up st' (fun j hj => p_up_n v _ (Or.inr (by omega))) hs.2.2⟩ hw3 (by rw [List.length_cons]; omega) (by omega)
        refine ⟨u, ?_, fun a ha => (hu2 a ha).trans (p_up_a _ _ _ ha)⟩
        rw [List.length_cons] at hu
        rw [hu, sEv_pop h2]
        rfl
theorem p_mByLaw {l : sL} (hl : okL l) (f : Nat → Int32) {v : zV} (hC : ML v l) (hf : ∀ x, x < 7 → v 566 x = f x) : ∃ w, fX10_byLaw 116 v = some (sVal l f, w) ∧ ∀ a, a ≠ 565 → w a = v a := by
  unfold fX10_byLaw
  rcases hC with ⟨h1, rfl⟩ | ⟨h1, h2, h3⟩
  · refine ⟨v, ?_, fun _ _ => rfl⟩
    have f0 := hf 0 (by decide)
    have f2 := hf 2 (by decide)
    rw [h1, if_pos rfl]
    simp (disch := omega) only [i_0, i_1, i_2, i_3, i_4, i_5, i_6, i_7, i_8, i_9, i_10, i_11, i_12, i_13, i_14, i_15, i_16, i_17, i_18, i_19, i_20, i_21, i_22, i_23, i_24, i_25, i_26, i_27, i_28, i_29, i_30, i_31, i_32, i_33, i_34, i_35, i_36, i_37, i_38, i_39, i_40, i_41, i_42, i_43, i_44, i_45, i_46, i_47, i_48, i_49, i_50, i_51, i_52, i_53, i_54, i_55, i_56, i_57, i_58, i_59, i_60, i_61, i_62, i_63, i_91, i_93, i_97, i_98, i_99, i_100, i_101, i_102, i_103, i_104, i_122, i_150, i_200, i_255, i_305, i_600, i_729, i_999, i_1365, i_12345, i_32767, i_65536, i_100000, i_1000000, i_1103515245, zlet_eq, zbind_some, zbindv_some, ofN_nI, nI_add, pk_mul, nI_sub', nI_addg, gg_sub, nI_cl', zix_nI, rf_116_9, rf_116_10, rf_116_11, rf_116_12, rf_116_13, rf_116_14, rf_116_15, rf_116_16, rf_116_17, rf_116_18, rf_116_19, rf_116_20, rf_116_21, rf_116_22, rf_116_23, rf_116_24, rf_116_28, rf_116_29, rf_116_30, rf_116_31, rf_116_32, rf_116_33, rf_116_34, rf_116_35, rf_116_36, rf_116_37, rf_116_38, rf_116_39, rf_116_43, rf_116_49, rf_116_51, rf_116_54, rf_116_55, rf_116_56, rf_116_59, ln_127, ln_144, ln_161, ln_174, ln_187, ln_200, ln_213, ln_374, ln_535, ln_548, ln_561, ln_572, ln_577, ln_582, ln_117, ln_118, ln_119, ln_120, ln_121, ln_122, ln_123, ln_124, ln_125, ln_126, ln_565, ln_566, ln_567, ln_568, ln_569, ln_570, ln_571, ln_576, ln_600, ln_601, ln_602, ln_603, f0, f2]
    rfl
  · have := hl.2
    rw [h1, if_neg (show ¬ nI l.length = 0 from nI_ne0 h2 (by omega))]
    exact p_mByLawL hl.2 f l 0 zFU [] v List.drop_zero (Nat.zero_le _) h1 h3 hf trivial hl.1 (by show 0 + _ ≤ _; omega) (by unfold zFU; omega)
theorem p_mScore {α : sA} {l : sL} (ha : okA α) (hl : okL l) {v : zV} (hE : pME v α l) {h : Nat → Nat → Int32} (hh : HP v h) {r : Nat} (hr : rowM r) {ρ : sR} (hR : MR r v ρ) {n : Nat} (hn : n ≤ 13) (ho : okW α n ρ) {m : Nat} (hm : m < α 0 1) : ∃ w, fX10_scoreOf 116 r (nI m) v = some (sScore α l (sHp ρ h) m, w) ∧ onlyK v w := by
  have hoC := okW_C ha hn ho
  have h13 := hoC.1
  have hM := ha.1.2.1
  have hQ := ha.1.1
  have hy := ho.2.2.2.2.2.1
  have h5 := ho.2.2.2.2.2.2.2.2.2
  have hlr := hr.1
  have hr5 := hr.2.1
  have hr566 := hr.2.2.2.1
  have hr565 := hr.2.2.1
  have h61 := hR.1.1
  have h99 := hR.1.2.2.1
  have hwt := hR.2.2.1 m (by omega)
  have hage := hE.1.2.2.1 m hm
  have h120 := hE.1.1 0 (by decide)
  have hlast := p_mLast hr hR hoC
  unfold fX10_scoreOf sScore
  rcases Nat.eq_zero_or_pos (sCh ρ).length with h0 | h0
  · have h0' : (sCh (sHp ρ h)).length = 0 := h0
    simp (disch := omega) only [i_0, i_1, i_2, i_3, i_4, i_5, i_6, i_7, i_8, i_9, i_10, i_11, i_12, i_13, i_14, i_15, i_16, i_17, i_18, i_19, i_20, i_21, i_22, i_23, i_24, i_25, i_26, i_27, i_28, i_29, i_30, i_31, i_32, i_33, i_34, i_35, i_36, i_37, i_38, i_39, i_40, i_41, i_42, i_43, i_44, i_45, i_46, i_47, i_48, i_49, i_50, i_51, i_52, i_53, i_54, i_55, i_56, i_57, i_58, i_59, i_60, i_61, i_62, i_63, i_91, i_93, i_97, i_98, i_99, i_100, i_101, i_102, i_103, i_104, i_122, i_150, i_200, i_255, i_305, i_600, i_729, i_999, i_1365, i_12345, i_32767, i_65536, i_100000, i_1000000, i_1103515245, zlet_eq, zbind_some, zbindv_some, ofN_nI, nI_add, pk_mul, nI_sub', nI_addg, gg_sub, nI_cl', zix_nI, rf_116_9, rf_116_10, rf_116_11, rf_116_12, rf_116_13, rf_116_14, rf_116_15, rf_116_16, rf_116_17, rf_116_18, rf_116_19, rf_116_20, rf_116_21, rf_116_22, rf_116_23, rf_116_24, rf_116_28, rf_116_29, rf_116_30, rf_116_31, rf_116_32, rf_116_33, rf_116_34, rf_116_35, rf_116_36, rf_116_37, rf_116_38, rf_116_39, rf_116_43, rf_116_49, rf_116_51, rf_116_54, rf_116_55, rf_116_56, rf_116_59, ln_127, ln_144, ln_161, ln_174, ln_187, ln_200, ln_213, ln_374, ln_535, ln_548, ln_561, ln_572, ln_577, ln_582, ln_117, ln_118, ln_119, ln_120, ln_121, ln_122, ln_123, ln_124, ln_125, ln_126, ln_565, ln_566, ln_567, ln_568, ln_569, ln_570, ln_571, ln_576, ln_600, ln_601, ln_602, ln_603, hlr, h61, h0]
    rw [if_pos trivial, if_pos h0']
    exact ⟨v, rfl, fun _ _ _ => rfl⟩
  · have hL : sLast ρ < α 0 1 := okW_lt ho (getD_mem (by omega))
    have hdl := sDf_le α m (sLast ρ)
    have hdf := p_mDiffers hE.1 ha hm hL
    rw [show sLastO ρ = some (sLast ρ) by unfold sLastO; rw [if_neg (by omega)], oI_some] at hlast
    rw [if_neg (show ¬ (sCh (sHp ρ h)).length = 0 from fun q => by have : (sCh ρ).length = 0 := q; omega)]
    simp (disch := omega) only [i_0, i_1, i_2, i_3, i_4, i_5, i_6, i_7, i_8, i_9, i_10, i_11, i_12, i_13, i_14, i_15, i_16, i_17, i_18, i_19, i_20, i_21, i_22, i_23, i_24, i_25, i_26, i_27, i_28, i_29, i_30, i_31, i_32, i_33, i_34, i_35, i_36, i_37, i_38, i_39, i_40, i_41, i_42, i_43, i_44, i_45, i_46, i_47, i_48, i_49, i_50, i_51, i_52, i_53, i_54, i_55, i_56, i_57, i_58, i_59, i_60, i_61, i_62, i_63, i_91, i_93, i_97, i_98, i_99, i_100, i_101, i_102, i_103, i_104, i_122, i_150, i_200, i_255, i_305, i_600, i_729, i_999, i_1365, i_12345, i_32767, i_65536, i_100000, i_1000000, i_1103515245, zlet_eq, zbind_some, zbindv_some, ofN_nI, nI_add, pk_mul, nI_sub', nI_addg, gg_sub, nI_cl', zix_nI, rf_116_9, rf_116_10, rf_116_11, rf_116_12, rf_116_13, rf_116_14, rf_116_15, rf_116_16, rf_116_17, rf_116_18, rf_116_19, rf_116_20, rf_116_21, rf_116_22, rf_116_23, rf_116_24, rf_116_28, rf_116_29, rf_116_30, rf_116_31, rf_116_32, rf_116_33, rf_116_34, rf_116_35, rf_116_36, rf_116_37, rf_116_38, rf_116_39, rf_116_43, rf_116_49, rf_116_51, rf_116_54, rf_116_55, rf_116_56, rf_116_59, ln_127, ln_144, ln_161, ln_174, ln_187, ln_200, ln_213, ln_374, ln_535, ln_548, ln_561, ln_572, ln_577, ln_582, ln_117, ln_118, ln_119, ln_120, ln_121, ln_122, ln_123, ln_124, ln_125, ln_126, ln_565, ln_566, ln_567, ln_568, ln_569, ln_570, ln_571, ln_576, ln_600, ln_601, ln_602, ln_603, hlr, h61, hlast, hdf, p_up_a, p_up_s, h120, h99, hwt, hage]
    rw [if_neg (show ¬ nI (sCh ρ).length = nI 0 from nI_ne0 h0 (by omega))]
    generalize hu : zup (zup (zup (zup (zup (zup (zup v 566 0 (nI (sDf α m (sLast ρ)))) 566 1 (nI (α 0 0 - sDf α m (sLast ρ)))) 566 2 (nI (sWt ρ m))) 566 3 (nI (α 2 m + sSc ρ 0 - 1))) 566 4 (nI m)) 566 5 (nI (sSc ρ 0))) 566 6 (nI (sCh ρ).length) = u
    have hua : ∀ a, a ≠ 566 → u a = v a := fun a h => by rw [← hu]; simp (disch := omega) only [p_up_a]
    have huf : ∀ x, x < 7 → u 566 x = sFact α (sHp ρ h) m x := fun x hx => by
      have hx7 : x = 0 ∨ x = 1 ∨ x = 2 ∨ x = 3 ∨ x = 4 ∨ x = 5 ∨ x = 6 := by omega
      rw [← hu]
      rcases hx7 with rfl | rfl | rfl | rfl | rfl | rfl | rfl
      · rw [p_up_n _ _ (Or.inr (by decide)), p_up_n _ _ (Or.inr (by decide)), p_up_n _ _ (Or.inr (by decide)), p_up_n _ _ (Or.inr (by decide)), p_up_n _ _ (Or.inr (by decide)), p_up_n _ _ (Or.inr (by decide)), p_up_s]; rfl
      · rw [p_up_n _ _ (Or.inr (by decide)), p_up_n _ _ (Or.inr (by decide)), p_up_n _ _ (Or.inr (by decide)), p_up_n _ _ (Or.inr (by decide)), p_up_n _ _ (Or.inr (by decide)), p_up_s]; rfl
      · rw [p_up_n _ _ (Or.inr (by decide)), p_up_n _ _ (Or.inr (by decide)), p_up_n _ _ (Or.inr (by decide)), p_up_n _ _ (Or.inr (by decide)), p_up_s]; rfl
      · rw [p_up_n _ _ (Or.inr (by decide)), p_up_n _ _ (Or.inr (by decide)), p_up_n _ _ (Or.inr (by decide)), p_up_s]; rfl
      · rw [p_up_n _ _ (Or.inr (by decide)), p_up_n _ _ (Or.inr (by decide)), p_up_s]; rfl
      · rw [p_up_n _ _ (Or.inr (by decide)), p_up_s]; rfl
      · rw [p_up_s]; rfl
    obtain ⟨w, hw, hwa⟩ := p_mByLaw hl (sFact α (sHp ρ h) m) (v := u) (ML_fr hE.2 hl (by rw [hua 116 (by decide)]) (fun a h1 h2 => hua a (by omega))) huf
    have hwv : onlyK v w := fun a h1 h2 => (hwa a h1).trans (hua a h2)
    rw [hw, zbind_some, p_mPraise (HP_fr hh (by rw [hwv 116 (by decide) (by decide)]) (fun a h1 h2 => hwv a (by omega) (by omega))) (MA_fr hE.1 ha (fun a h1 h2 => hwv a (by omega) (by omega))) ha hr (MR_fr hR (hwv r hr565 hr566)) h5 hy.2 (by omega), zbind_some]
    refine ⟨w, ?_, hwv⟩
    rw [← Int32.add_assoc]
    rfl
/-- the reference's way to choose -/
def gMs (ρ : sR) (sc : Nat → Int32) (m : Nat) (s : Option Nat × Bool) : Option Nat × Bool := if sSt ρ m ≠ 0 then s else match s.1 with
  | none => (some m, false)
  | some x => if sc m ≤ sc x then (some x, s.2 || decide (sc m = sc x)) else (some m, false)
def gMf (sc : Nat → Int32) (s : Option Nat × Bool) : Option Nat := match s.1 with
  | none => none
  | some x => if s.2 = true then none else if 0 < sc x then some x else none
def gMt (sc : Nat → Int32) (s : Option Nat × Bool) : Option Nat × Int32 := match s.1 with
  | none => (none, 0)
  | some x => if 0 < sc x then (if s.2 = true then none else some x, sc x) else (none, 0)
theorem gMt_some (sc : Nat → Int32) (x : Nat) (b : Bool) : gMt sc (some x, b) = if 0 < sc x then (if b = true then none else some x, sc x) else (none, 0) := rfl
theorem gM_step (ρ : sR) (sc : Nat → Int32) (j : Nat) (s : Option Nat × Bool) : sGreS ρ sc j (gMt sc s) = gMt sc (gMs ρ sc j s) := by
  obtain ⟨s1, s2⟩ := s
  unfold sGreS gMs
  by_cases hc : sSt ρ j ≠ 0
  · rw [if_pos hc, if_pos hc]
  · rw [if_neg hc, if_neg hc]
    cases s1 with
    | none =>
      show (if (0 : Int32) ≤ sc j then (if sc j ≤ 0 then none else some j, sc j) else (none, 0)) = gMt sc (some j, false)
      rw [gMt_some]
      by_cases h0 : (0 : Int32) ≤ sc j
      · by_cases h1 : sc j ≤ 0
        · have h2 : sc j = 0 := Int32.le_antisymm h1 h0
          rw [h2]
          rfl
        · simp [if_pos h0, if_neg h1, if_pos (Int32.not_le.mp h1)]
      · simp only [if_neg h0, if_neg (Int32.not_lt.mpr (Int32.le_of_lt (Int32.not_le.mp h0)))]
    | some x =>
      show (if (gMt sc (some x, s2)).2 ≤ sc j then (if sc j ≤ (gMt sc (some x, s2)).2 then none else some j, sc j) else gMt sc (some x, s2)) = gMt sc (if sc j ≤ sc x then (some x, s2 || decide (sc j = sc x)) else (some j, false))
      by_cases hx : 0 < sc x
      · by_cases hm : sc j ≤ sc x
        · simp only [if_pos hm, gMt_some, if_pos hx]
          by_cases he : sc j = sc x
          · have h1 : sc x ≤ sc j := by rw [he]; exact Int32.le_refl _
            rw [if_pos h1]
            simp [he]
          · rw [if_neg (fun q => he (Int32.le_antisymm hm q))]
            simp [he]
        · have hlt := Int32.not_le.mp hm
          simp only [if_neg hm, gMt_some, if_pos hx, if_pos (Int32.le_of_lt hlt), if_pos (Int32.lt_trans hx hlt)]
          simp
      · have hx0 := Int32.not_lt.mp hx
        by_cases hm : sc j ≤ sc x
        · simp only [if_pos hm, gMt_some, if_neg hx]
          have hj0 := Int32.le_trans hm hx0
          by_cases h0 : (0 : Int32) ≤ sc j
          · have h2 : sc j = 0 := Int32.le_antisymm hj0 h0
            rw [h2]
            rfl
          · simp only [if_neg h0]
        · simp only [if_neg hm, gMt_some, if_neg hx]
          by_cases h0 : (0 : Int32) ≤ sc j
          · by_cases h1 : sc j ≤ 0
            · have h2 : sc j = 0 := Int32.le_antisymm h1 h0
              rw [h2]
              rfl
            · simp [if_pos h0, if_neg h1, if_pos (Int32.not_le.mp h1)]
          · simp only [if_neg h0, if_neg (Int32.not_lt.mpr (Int32.le_of_lt (Int32.not_le.mp h0)))]
theorem gM_two (α : sA) (ρ : sR) (sc : Nat → Int32) : gMf sc (zit (gMs ρ sc) (α 0 1) 0 (none, false)) = sGre α ρ sc := by
  have := zit_two (g := gMs ρ sc) (h := sGreS ρ sc) (fun _ s t => t = gMt sc s) (α 0 1) (fun j s t hj hI => by rw [hI]; exact gM_step ρ sc j s) (α 0 1) 0 (none, false) (none, 0) (Nat.zero_add _) rfl
  unfold sGre
  rw [this]
  generalize zit (gMs ρ sc) (α 0 1) 0 (none, false) = s
  obtain ⟨s1, s2⟩ := s
  cases s1 with
  | none => rfl
  | some x =>
    show (if s2 = true then none else if 0 < sc x then some x else none) = (if 0 < sc x then (if s2 = true then none else some x, sc x) else (none, 0)).1
    by_cases hx : 0 < sc x
    · rw [if_pos hx, if_pos hx]
    · rw [if_neg hx, if_neg hx]
      split <;> rfl
end
