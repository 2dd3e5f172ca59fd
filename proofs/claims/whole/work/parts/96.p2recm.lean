/-! RECORDS, the reference -/
section
theorem m569 : rowM 569 := rowM_all 569 (by decide)
theorem m571 : rowM 571 := rowM_all 571 (by decide)
def pMB (v : zV) (β : sB) : Prop := v 116 40 = nI β.length ∧ ∀ k, k < β.length → v (536 + k) 0 = nI (bY β k) ∧ v (536 + k) 1 = oI (bM β k)
theorem MB_fr {v w : zV} {β : sB} (h : pMB v β) (hL : β.length ≤ 12) (e0 : w 116 40 = v 116 40) (e : ∀ a, 536 ≤ a → a ≤ 547 → w a = v a) : pMB w β := ⟨by rw [e0]; exact h.1, fun k hk => by rw [e (536 + k) (by omega) (by omega)]; exact h.2 k hk⟩
theorem MB_M {v w : zV} {β : sB} (h : pMB v β) (hL : β.length ≤ 12) (e : onlyM 571 v w) : pMB w β := MB_fr h hL (e.2 40 (by decide) (by decide)) (fun a g1 g2 => e.1 a (by omega) (by omega) (by omega) (by omega) (by omega))
theorem MO_M {v w : zV} {α : sA} {mo : Option (Nat × Nat)} (h : MO v α mo) (e : onlyM 571 v w) : MO w α mo := by
  cases mo with
  | none => exact (e.2 46 (by decide) (by decide)).trans h
  | some p =>
    obtain ⟨y, x⟩ := p
    obtain ⟨h1, h2, h3⟩ := h
    exact ⟨(e.2 46 (by decide) (by decide)).trans h1, (e.2 45 (by decide) (by decide)).trans h2, h3⟩
theorem MO_ok {v : zV} {α : sA} {mo : Option (Nat × Nat)} (h : MO v α mo) : okMo α mo := by
  intro y x e
  rw [e] at h
  exact h.2.2.1
/-- what the reference's records ask of -/
def MDq (v : zV) (α : sA) (l : sL) (β : sB) (mo : Option (Nat × Nat)) : Prop := pME v α l ∧ pMB v β ∧ MR 569 v (sOpen α) ∧ v 116 44 = 0 ∧ MO v α mo ∧ v 116 47 = 0
theorem MDq_M {v w : zV} {α : sA} {l : sL} {β : sB} {mo : Option (Nat × Nat)} (ha : okA α) (hl : okL l) (hb : okBk α β) (h : MDq v α l β mo) (e : onlyM 571 v w) : MDq w α l β mo := ⟨ME_M m571 ha hl h.1 e, MB_M h.2.1 hb.1 e, MR_fr h.2.2.1 (e.1 569 (by decide) (by decide) (by decide) (by decide) (by decide)), (e.2 44 (by decide) (by decide)).trans h.2.2.2.1, MO_M h.2.2.2.2.1 e, (e.2 47 (by decide) (by decide)).trans h.2.2.2.2.2⟩
theorem p_mRight65 {α : sA} {β : sB} (ha : okA α) (hb : okBk α β) {v : zV} (hB : pMB v β) (f : Nat → Option Nat) (hf : ∀ k, k < β.length → v 571 (104 + bY β k) = oI (f (bY β k - 1))) (hf2 : ∀ k m, f k = some m → m < α 0 1) : ∀ (d n j : Nat), j + d = β.length → d < n → fX10_rightLines_65 n 116 (nI j) v = some (nI (zfar (bOk β f) d j), v) := by
  have hL := hb.1
  have hM := ha.1.2.1
  have l571 := m571.1
  intro d
  induction d with
  | zero =>
    intro n j e hn
    obtain ⟨n, rfl⟩ : ∃ k, n = k + 1 := ⟨n - 1, by omega⟩
    obtain rfl : j = β.length := by omega
    rw [fX10_rightLines_65]
    dsimp only
    rw [hB.1, if_pos (Int32.le_refl _), zfar]
  | succ d ih =>
    intro n j e hn
    obtain ⟨n, rfl⟩ : ∃ k, n = k + 1 := ⟨n - 1, by omega⟩
    have hj : j < β.length := by omega
    have hyj := (hb.2 j hj).1
    have hmj := (hb.2 j hj).2
    have ra := rfa_535 j (by omega)
    have la := lna_535 j (by omega)
    have h0 := (hB.2 j hj).1
    have h1 := (hB.2 j hj).2
    have h4 := hf j hj
    have h40 := hB.1
    rw [fX10_rightLines_65]
    dsimp only
    rw [h40, if_neg (nI_ge hj (by omega))]
    simp (disch := omega) only [↓reduceIte, i_0, i_1, i_2, i_3, i_4, i_5, i_6, i_7, i_8, i_9, i_10, i_11, i_12, i_13, i_14, i_15, i_16, i_17, i_18, i_19, i_20, i_21, i_22, i_23, i_24, i_25, i_26, i_27, i_28, i_29, i_30, i_31, i_32, i_33, i_34, i_35, i_36, i_37, i_38, i_39, i_40, i_41, i_42, i_43, i_44, i_45, i_46, i_47, i_48, i_49, i_50, i_51, i_52, i_53, i_54, i_55, i_56, i_57, i_58, i_59, i_60, i_61, i_62, i_63, i_91, i_93, i_97, i_98, i_99, i_100, i_101, i_102, i_103, i_104, i_122, i_150, i_200, i_255, i_305, i_600, i_729, i_999, i_1365, i_12345, i_32767, i_65536, i_100000, i_1000000, i_1103515245, zlet_eq, zbind_some, zbindv_some, ofN_nI, nI_add, pk_mul, nI_sub', nI_addg, gg_sub, nI_cl', zix_nI, rf_116_9, rf_116_10, rf_116_11, rf_116_12, rf_116_13, rf_116_14, rf_116_15, rf_116_16, rf_116_17, rf_116_18, rf_116_19, rf_116_20, rf_116_21, rf_116_22, rf_116_23, rf_116_24, rf_116_28, rf_116_29, rf_116_30, rf_116_31, rf_116_32, rf_116_33, rf_116_34, rf_116_35, rf_116_36, rf_116_37, rf_116_38, rf_116_39, rf_116_43, rf_116_49, rf_116_51, rf_116_54, rf_116_55, rf_116_56, rf_116_59, ln_127, ln_144, ln_161, ln_174, ln_187, ln_200, ln_213, ln_374, ln_535, ln_548, ln_561, ln_572, ln_577, ln_582, ln_117, ln_118, ln_119, ln_120, ln_121, ln_122, ln_123, ln_124, ln_125, ln_126, ln_565, ln_566, ln_567, ln_568, ln_569, ln_570, ln_571, ln_576, ln_600, ln_601, ln_602, ln_603, ra, la, h0, h1, h4, l571]
    rw [ih n (j + 1) (by omega) (by omega), zfar]
    simp (disch := omega) only [oI_inj (a := f (bY β j - 1)) (b := bM β j) (fun m hm => by have := hf2 _ m hm; omega) (fun m hm => by have := hmj m hm; omega)]
    unfold bOk
    by_cases c : f (bY β j - 1) = bM β j
    · rw [if_pos c, if_pos (beq_iff_eq.mpr c)]
    · rw [if_neg c, if_neg (fun q => c (beq_iff_eq.mp q))]
theorem p_mRight46 {α : sA} {l : sL} {β : sB} (ha : okA α) (hl : okL l) (hb : okBk α β) {mo : Option (Nat × Nat)} {v0 : zV} : ∀ (d n j : Nat) (w : zV), j + d = sLY β β.length → d < n → MDq w α l β mo → MR 571 w (sYr α l mo j) → onlyM 571 v0 w → ∃ u, fX10_rightLines_46 n 116 (nI (sLY β β.length)) (nI 0) (nI j) w = some (nI (sRight α l β mo), u) ∧ onlyM 571 v0 u := by
  have hL : sLY β β.length ≤ 60 := sLY_le β (fun k hk => (hb.2 k hk).1.2)
  have hL2 := hb.1
  intro d
  induction d with
  | zero =>
    intro n j w e hn hT hR hv
    obtain ⟨n, rfl⟩ : ∃ k, n = k + 1 := ⟨n - 1, by omega⟩
    obtain rfl : j = sLY β β.length := by omega
    obtain ⟨hO, hY⟩ := sYr_ok l ha (MO_ok hT.2.2.2.2.1) (sLY β β.length) hL
    refine ⟨w, ?_, hv⟩
    rw [fX10_rightLines_46]
    dsimp only
    rw [if_pos (Int32.le_refl _)]
    refine p_mRight65 ha hb hT.2.1 (sIn α l mo) (fun k hk => ?_) (fun k m hm => sIn_lt hm) β.length zFU 0 (Nat.zero_add _) (by unfold zFU; omega)
    have h1 := (hb.2 k hk).1
    have h2 := sLY_ge β β.length k hk
    have h3 := hR.2.2.2.2.2.2.2.1 (bY β k) (by omega) (by omega)
    rw [if_pos (by omega)] at h3
    have h4 := sYr_tk l ha (MO_ok hT.2.2.2.2.1) (sLY β β.length) hL (bY β k - 1) (by omega)
    rw [show bY β k - 1 + 1 = bY β k by omega] at h4
    rw [h3, h4]
  | succ d ih =>
    intro n j w e hn hT hR hv
    obtain ⟨n, rfl⟩ : ∃ k, n = k + 1 := ⟨n - 1, by omega⟩
    obtain ⟨hO, hY⟩ := sYr_ok l ha (MO_ok hT.2.2.2.2.1) j (by omega)
    obtain ⟨u, hu, hur, -, huo⟩ := p_mGoes ha hl hT.1 (HP_0 hT.2.2.2.1) hT.2.2.2.2.1 hT.2.2.2.2.2 m571 hR hO
    rw [fX10_rightLines_46]
    dsimp only
    rw [if_neg (nI_ge (by omega) (by omega)), rf_116_39, hu, zbindv_some, nI_1]
    exact ih n (j + 1) u (by omega) (by omega) (MDq_M ha hl hb hT huo) hur (onlyM_tr hv huo)
theorem p_mRight {α : sA} {l : sL} {β : sB} (ha : okA α) (hl : okL l) (hb : okBk α β) {mo : Option (Nat × Nat)} {v : zV} (h : MDq v α l β mo) : ∃ w, fX10_rightLines 116 v = some (nI (sRight α l β mo), w) ∧ onlyM 571 v w := by
  have hL : sLY β β.length ≤ 60 := sLY_le β (fun k hk => (hb.2 k hk).1.2)
  have hL2 := hb.1
  have hB := h.2.1
  unfold fX10_rightLines
  have key := lpI (σ := Nat) (fun n j s => fX10_rightLines_6 n 116 (nI s) (nI 0) (nI j) v) (fun k s => max s (bY β k)) β.length (fun s => zbindv (fX10_copies 569 571 v) fun v_1 => fX10_rightLines_46 zFU 116 (nI s) (nI 0) (nI 0) v_1) (fun _ s => s ≤ 60) (fun n1 s _ => ?_) (fun n1 j s hj hs => ?_) β.length zFU 0 0 (Nat.zero_add _) (by unfold zFU; omega) (Nat.zero_le _)
  · rw [sLY_zit] at key
    obtain ⟨w, hw, hwe, hwo⟩ := p_mCopies m571 m569 (by decide) v
    have hon : onlyM 571 v w := ⟨fun a g1 _ _ _ _ => hwo a g1, fun k _ _ => by rw [hwo 116 (by decide)]⟩
    obtain ⟨u, hu, huo⟩ := p_mRight46 (l := l) ha hl hb (mo := mo) (v0 := v) (sLY β β.length) zFU 0 w (Nat.zero_add _) (by unfold zFU; omega) (MDq_M ha hl hb h hon) (MR_cp h.2.2.1 hwe) hon
    refine ⟨u, ?_, huo⟩
    refine Eq.trans key ?_
    rw [hw, zbindv_some]
    exact hu
  · show fX10_rightLines_6 (n1 + 1) 116 (nI s) (nI 0) (nI β.length) v = _
    rw [fX10_rightLines_6]
    dsimp only
    rw [hB.1, if_pos (Int32.le_refl _), rf_116_37, rf_116_39]
    rfl
  · show fX10_rightLines_6 (n1 + 1) 116 (nI s) (nI 0) (nI j) v = fX10_rightLines_6 n1 116 (nI (max s (bY β j))) (nI 0) (nI (j + 1)) v ∧ max s (bY β j) ≤ 60
    have hy := (hb.2 j hj).1
    have ra := rfa_535 j (by omega)
    have la := lna_535 j (by omega)
    have h0 := (hB.2 j hj).1
    have h40 := hB.1
    refine ⟨?_, by omega⟩
    rw [fX10_rightLines_6]
    dsimp only
    rw [h40, if_neg (nI_ge hj (by omega))]
    simp (disch := omega) only [↓reduceIte, i_0, i_1, i_2, i_3, i_4, i_5, i_6, i_7, i_8, i_9, i_10, i_11, i_12, i_13, i_14, i_15, i_16, i_17, i_18, i_19, i_20, i_21, i_22, i_23, i_24, i_25, i_26, i_27, i_28, i_29, i_30, i_31, i_32, i_33, i_34, i_35, i_36, i_37, i_38, i_39, i_40, i_41, i_42, i_43, i_44, i_45, i_46, i_47, i_48, i_49, i_50, i_51, i_52, i_53, i_54, i_55, i_56, i_57, i_58, i_59, i_60, i_61, i_62, i_63, i_91, i_93, i_97, i_98, i_99, i_100, i_101, i_102, i_103, i_104, i_122, i_150, i_200, i_255, i_305, i_600, i_729, i_999, i_1365, i_12345, i_32767, i_65536, i_100000, i_1000000, i_1103515245, zlet_eq, zbind_some, zbindv_some, ofN_nI, nI_add, pk_mul, nI_sub', nI_addg, gg_sub, nI_cl', zix_nI, rf_116_9, rf_116_10, rf_116_11, rf_116_12, rf_116_13, rf_116_14, rf_116_15, rf_116_16, rf_116_17, rf_116_18, rf_116_19, rf_116_20, rf_116_21, rf_116_22, rf_116_23, rf_116_24, rf_116_28, rf_116_29, rf_116_30, rf_116_31, rf_116_32, rf_116_33, rf_116_34, rf_116_35, rf_116_36, rf_116_37, rf_116_38, rf_116_39, rf_116_43, rf_116_49, rf_116_51, rf_116_54, rf_116_55, rf_116_56, rf_116_59, ln_127, ln_144, ln_161, ln_174, ln_187, ln_200, ln_213, ln_374, ln_535, ln_548, ln_561, ln_572, ln_577, ln_582, ln_117, ln_118, ln_119, ln_120, ln_121, ln_122, ln_123, ln_124, ln_125, ln_126, ln_565, ln_566, ln_567, ln_568, ln_569, ln_570, ln_571, ln_576, ln_600, ln_601, ln_602, ln_603, ra, la, h0, p_more, zmax_nI (show s < 2 ^ 31 by omega) (show bY β j < 2 ^ 31 by omega)]
/-- RIGHT -/
theorem frM_571 {v w : zV} (h : onlyM 571 v w) : frM v w := frM_M (by decide) (by decide) h
theorem MDq_0 {v : zV} {α : sA} {l : sL} {β : sB} {mo : Option (Nat × Nat)} (ha : okA α) (hl : okL l) (hb : okBk α β) (h : MDq v α l β mo) (x : Int32) : MDq (zup v 116 0 x) α l β mo := by
  have e : ∀ a, a ≠ 116 → zup v 116 0 x a = v a := fun a g => p_up_a _ _ _ g
  have e2 : ∀ k, k ≠ 0 → zup v 116 0 x 116 k = v 116 k := fun k g => p_up_n _ _ (Or.inr g)
  refine ⟨⟨MA_fr h.1.1 ha (fun a g1 g2 => e a (by omega)), ML_fr h.1.2 hl (e2 26 (by decide)) (fun a g1 g2 => e a (by omega))⟩, MB_fr h.2.1 hb.1 (e2 40 (by decide)) (fun a g1 g2 => e a (by omega)), MR_fr h.2.2.1 (e 569 (by decide)), (e2 44 (by decide)).trans h.2.2.2.1, ?_, (e2 47 (by decide)).trans h.2.2.2.2.2⟩
  cases mo with
  | none => exact (e2 46 (by decide)).trans h.2.2.2.2.1
  | some p =>
    obtain ⟨y, x⟩ := p
    obtain ⟨h1, h2, h3⟩ := h.2.2.2.2.1
    exact ⟨(e2 46 (by decide)).trans h1, (e2 45 (by decide)).trans h2, h3⟩
theorem p_mRightQ {α : sA} {l : sL} {β : sB} (ha : okA α) (hl : okL l) (hb : okBk α β) {v : zV} (h : MDq v α l β none) : ∃ w, fX10_right 116 v = some (nI (sRight α l β none), w) ∧ frM (zup v 116 0 0) w := by
  obtain ⟨w, hw, hwo⟩ := p_mRight ha hl hb (MDq_0 ha hl hb h 0)
  refine ⟨w, ?_, frM_571 hwo⟩
  unfold fX10_right
  rw [zlet_eq, hw, zbind_some]
/-- DEAD -/
theorem p_mDead57 {α : sA} {l : sL} {β : sB} (ha : okA α) (hl : okL l) (hb : okBk α β) {y : Nat} (hy : y < 1000) {v0 : zV} (h46 : v0 116 46 = -nI 1) : ∀ (d n j : Nat) (b : Int32) (v : zV), j + d = α 0 1 → d < n → pME v α l → pMB v β → MR 569 v (sOpen α) → v 116 44 = 0 → v 116 47 = 0 → v 116 45 = nI y → (∀ k, k ≠ 45 → k ≠ 46 → k ≠ 48 → k ≠ 50 → v 116 k = v0 116 k) → (∀ a, a ≠ 571 → a ≠ 565 → a ≠ 566 → a ≠ 576 → a ≠ 116 → v a = v0 a) → ∃ w, fX10_dead_57 n 116 b (nI j) v = some (zit (sDeadS α l β y) d j b, w) ∧ frM v0 w := by
  have hM := ha.1.2.1
  intro d
  induction d with
  | zero =>
    intro n j b v e hn hE hB hR h44 h47 h45 hk hv
    obtain ⟨n, rfl⟩ : ∃ k, n = k + 1 := ⟨n - 1, by omega⟩
    obtain rfl : j = α 0 1 := by omega
    have h1 := hE.1.1 1 (by decide)
    refine ⟨zup v 116 46 (-nI 1), ?_, ⟨fun a g1 g2 g3 g4 => ?_, fun k g1 g2 g3 g4 g5 g6 g7 => ?_⟩⟩
    · rw [fX10_dead_57]
      dsimp only
      simp (disch := omega) only [↓reduceIte, i_0, i_1, i_2, i_3, i_4, i_5, i_6, i_7, i_8, i_9, i_10, i_11, i_12, i_13, i_14, i_15, i_16, i_17, i_18, i_19, i_20, i_21, i_22, i_23, i_24, i_25, i_26, i_27, i_28, i_29, i_30, i_31, i_32, i_33, i_34, i_35, i_36, i_37, i_38, i_39, i_40, i_41, i_42, i_43, i_44, i_45, i_46, i_47, i_48, i_49, i_50, i_51, i_52, i_53, i_54, i_55, i_56, i_57, i_58, i_59, i_60, i_61, i_62, i_63, i_91, i_93, i_97, i_98, i_99, i_100, i_101, i_102, i_103, i_104, i_122, i_150, i_200, i_255, i_305, i_600, i_729, i_999, i_1365, i_12345, i_32767, i_65536, i_100000, i_1000000, i_1103515245, zlet_eq, zbind_some, zbindv_some, ofN_nI, nI_add, pk_mul, nI_sub', nI_addg, gg_sub, nI_cl', zix_nI, rf_116_9, rf_116_10, rf_116_11, rf_116_12, rf_116_13, rf_116_14, rf_116_15, rf_116_16, rf_116_17, rf_116_18, rf_116_19, rf_116_20, rf_116_21, rf_116_22, rf_116_23, rf_116_24, rf_116_28, rf_116_29, rf_116_30, rf_116_31, rf_116_32, rf_116_33, rf_116_34, rf_116_35, rf_116_36, rf_116_37, rf_116_38, rf_116_39, rf_116_43, rf_116_49, rf_116_51, rf_116_54, rf_116_55, rf_116_56, rf_116_59, ln_127, ln_144, ln_161, ln_174, ln_187, ln_200, ln_213, ln_374, ln_535, ln_548, ln_561, ln_572, ln_577, ln_582, ln_117, ln_118, ln_119, ln_120, ln_121, ln_122, ln_123, ln_124, ln_125, ln_126, ln_565, ln_566, ln_567, ln_568, ln_569, ln_570, ln_571, ln_576, ln_600, ln_601, ln_602, ln_603, h1]
      rw [if_pos (Int32.le_refl _), zit]
    · rw [p_up_a _ _ _ g1]
      exact hv a (by omega) g2 g3 (by omega) g1
    · rw [p_up]
      by_cases c : k = 46
      · rw [c, if_pos ⟨rfl, rfl⟩, h46]
      · rw [if_neg (fun q => c q.2)]
        exact hk k g1 c g2 g3
  | succ d ih =>
    intro n j b v e hn hE hB hR h44 h47 h45 hk hv
    obtain ⟨n, rfl⟩ : ∃ k, n = k + 1 := ⟨n - 1, by omega⟩
    have hj : j < α 0 1 := by omega
    have h1 := hE.1.1 1 (by decide)
    have e : ∀ a, a ≠ 116 → zup v 116 46 (nI j) a = v a := fun a g => p_up_a _ _ _ g
    have e2 : ∀ k, k ≠ 46 → zup v 116 46 (nI j) 116 k = v 116 k := fun k g => p_up_n _ _ (Or.inr g)
    have e3 : zup v 116 46 (nI j) 116 46 = nI j := p_up_s _ _ _ _
    rw [fX10_dead_57]
    dsimp only
    simp (disch := omega) only [↓reduceIte, i_0, i_1, i_2, i_3, i_4, i_5, i_6, i_7, i_8, i_9, i_10, i_11, i_12, i_13, i_14, i_15, i_16, i_17, i_18, i_19, i_20, i_21, i_22, i_23, i_24, i_25, i_26, i_27, i_28, i_29, i_30, i_31, i_32, i_33, i_34, i_35, i_36, i_37, i_38, i_39, i_40, i_41, i_42, i_43, i_44, i_45, i_46, i_47, i_48, i_49, i_50, i_51, i_52, i_53, i_54, i_55, i_56, i_57, i_58, i_59, i_60, i_61, i_62, i_63, i_91, i_93, i_97, i_98, i_99, i_100, i_101, i_102, i_103, i_104, i_122, i_150, i_200, i_255, i_305, i_600, i_729, i_999, i_1365, i_12345, i_32767, i_65536, i_100000, i_1000000, i_1103515245, zlet_eq, zbind_some, zbindv_some, ofN_nI, nI_add, pk_mul, nI_sub', nI_addg, gg_sub, nI_cl', zix_nI, rf_116_9, rf_116_10, rf_116_11, rf_116_12, rf_116_13, rf_116_14, rf_116_15, rf_116_16, rf_116_17, rf_116_18, rf_116_19, rf_116_20, rf_116_21, rf_116_22, rf_116_23, rf_116_24, rf_116_28, rf_116_29, rf_116_30, rf_116_31, rf_116_32, rf_116_33, rf_116_34, rf_116_35, rf_116_36, rf_116_37, rf_116_38, rf_116_39, rf_116_43, rf_116_49, rf_116_51, rf_116_54, rf_116_55, rf_116_56, rf_116_59, ln_127, ln_144, ln_161, ln_174, ln_187, ln_200, ln_213, ln_374, ln_535, ln_548, ln_561, ln_572, ln_577, ln_582, ln_117, ln_118, ln_119, ln_120, ln_121, ln_122, ln_123, ln_124, ln_125, ln_126, ln_565, ln_566, ln_567, ln_568, ln_569, ln_570, ln_571, ln_576, ln_600, ln_601, ln_602, ln_603, h1]
    rw [if_neg (nI_ge hj (by omega))]
    generalize zup v 116 46 (nI j) = u at e e2 e3
    have hD : MDq u α l β (some (y, j)) := ⟨⟨MA_fr hE.1 ha (fun a g1 g2 => e a (by omega)), ML_fr hE.2 hl (e2 26 (by decide)) (fun a g1 g2 => e a (by omega))⟩, MB_fr hB hb.1 (e2 40 (by decide)) (fun a g1 g2 => e a (by omega)), MR_fr hR (e 569 (by decide)), (e2 44 (by decide)).trans h44, ⟨e3, (e2 45 (by decide)).trans h45, hj, hy⟩, (e2 47 (by decide)).trans h47⟩
    obtain ⟨w, hw, hwo⟩ := p_mRight ha hl hb hD
    have hDw := MDq_M ha hl hb hD hwo
    rw [hw, zbind_some, hDw.2.1.1]
    have hS : (if nI (sRight α l β (some (y, j))) = nI β.length then fX10_dead_57 n 116 (b ||| (nI 1 <<< (nI j &&& nI 31))) (nI (j + 1)) w else fX10_dead_57 n 116 (b ||| nI 0) (nI (j + 1)) w) = fX10_dead_57 n 116 (sDeadS α l β y j b) (nI (j + 1)) w := by
      have hle := sRight_le α l β (some (y, j))
      have hL := hb.1
      unfold sDeadS
      simp (disch := omega) only [nI_eq']
      by_cases c : sRight α l β (some (y, j)) = β.length
      · rw [if_pos c, if_pos ((sHold_right hb _).mpr c)]
        rfl
      · rw [if_neg c, if_neg (fun q => c ((sHold_right hb _).mp q)), show b ||| nI 0 = b from Int32.or_zero]
    refine Exists.imp (fun w2 hw2 => ⟨Eq.trans hS (Eq.trans hw2.1 ?_), hw2.2⟩) (ih n (j + 1) (sDeadS α l β y j b) w (by omega) (by omega) hDw.1 hDw.2.1 hDw.2.2.1 hDw.2.2.2.1 hDw.2.2.2.2.2 hDw.2.2.2.2.1.2.1 (fun k g1 g2 g3 g4 => ?_) (fun a g1 g2 g3 g4 g5 => ?_))
    · rw [zit]
    · rw [hwo.2 k g3 g4, e2 k g2]
      exact hk k g1 g2 g3 g4
    · rw [hwo.1 a g1 g2 g3 g4 g5, e a g5]
      exact hv a g1 g2 g3 g4 g5
theorem p_mDead {α : sA} {l : sL} {β : sB} (ha : okA α) (hl : okL l) (hb : okBk α β) {y : Nat} (hy : y < 1000) {v : zV} (h : MDq v α l β none) : ∃ w, (zbind (fX10_rightLines 116 v) fun r_4 v_3 => if r_4 = (v_3 116 40) then zlet (zup v_3 116 45 (nI y)) fun v_6 => fX10_dead_57 zFU 116 (65536 : Int32) (0 : Int32) v_6 else zlet (zup v_3 116 45 (nI y)) fun v_5 => fX10_dead_57 zFU 116 (0 : Int32) (0 : Int32) v_5) = some (sDeadB α l β y, w) ∧ frM v w := by
  obtain ⟨u, hu, huo⟩ := p_mRight ha hl hb h
  have hD := MDq_M ha hl hb h huo
  have hle := sRight_le α l β none
  have hL := hb.1
  have e : ∀ a, a ≠ 116 → zup u 116 45 (nI y) a = u a := fun a g => p_up_a _ _ _ g
  have e2 : ∀ k, k ≠ 45 → zup u 116 45 (nI y) 116 k = u 116 k := fun k g => p_up_n _ _ (Or.inr g)
  have e3 : zup u 116 45 (nI y) 116 45 = nI y := p_up_s _ _ _ _
  rw [hu, zbind_some, hD.2.1.1]
  simp (disch := omega) only [nI_eq', zlet_eq]
  generalize zup u 116 45 (nI y) = t at e e2 e3
  have go := fun b => p_mDead57 ha hl hb hy (v0 := v) h.2.2.2.2.1 (α 0 1) zFU 0 b t (Nat.zero_add _) (by unfold zFU; have := ha.1.2.1; omega) ⟨MA_fr hD.1.1 ha (fun a g1 g2 => e a (by omega)), ML_fr hD.1.2 hl (e2 26 (by decide)) (fun a g1 g2 => e a (by omega))⟩ (MB_fr hD.2.1 hb.1 (e2 40 (by decide)) (fun a g1 g2 => e a (by omega))) (MR_fr hD.2.2.1 (e 569 (by decide))) ((e2 44 (by decide)).trans hD.2.2.2.1) ((e2 47 (by decide)).trans hD.2.2.2.2.2) e3 (fun k g1 g2 g3 g4 => (e2 k g1).trans (huo.2 k g3 g4)) (fun a g1 g2 g3 g4 g5 => (e a g5).trans (huo.1 a g1 g2 g3 g4 g5))
  unfold sDeadB
  by_cases c : sRight α l β none = β.length
  · rw [if_pos c, if_pos ((sHold_right hb _).mpr c)]
    exact go _
  · rw [if_neg c, if_neg (fun q => c ((sHold_right hb _).mp q))]
    exact go _
end
