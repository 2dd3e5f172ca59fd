/-! the reference: its academy, its law, its rows -/
section
def pMA (v : zV) (α : sA) : Prop := (∀ k, k < 6 → v 120 k = nI (α 0 k)) ∧ (∀ q, q < α 0 0 → v 122 q = nI (α 1 q)) ∧ (∀ m, m < α 0 1 → v 124 m = nI (α 2 m)) ∧ (∀ c, c < α 0 3 → v 126 c = nI (α 3 c)) ∧ (∀ m, m < α 0 1 → ∀ q, q < α 0 0 → v (145 + m) q = nI (α (10 + m) q)) ∧ (∀ k, k < α 0 4 → ∀ j, j < 2 → v (175 + k) j = nI (α (30 + k) j)) ∧ ∀ k, k < α 0 5 → ∀ j, j < 3 → v (201 + k) j = nI (α (50 + k) j)
theorem MA_fr {v w : zV} {α : sA} (h : pMA v α) (ho : okA α) (e : ∀ a, 120 ≤ a → a ≤ 212 → w a = v a) : pMA w α := by
  obtain ⟨h0, h1, h2, h3, h4, h5, h6⟩ := h
  have hb := ho.1
  refine ⟨fun k hk => ?_, fun k hk => ?_, fun k hk => ?_, fun k hk => ?_, fun k hk q hq => ?_, fun k hk j hj => ?_, fun k hk j hj => ?_⟩
  · rw [e _ (by omega) (by omega)]; exact h0 k hk
  · rw [e _ (by omega) (by omega)]; exact h1 k hk
  · rw [e _ (by omega) (by omega)]; exact h2 k hk
  · rw [e _ (by omega) (by omega)]; exact h3 k hk
  · rw [e _ (by omega) (by omega)]; exact h4 k hk q hq
  · rw [e _ (by omega) (by omega)]; exact h5 k hk j hj
  · rw [e _ (by omega) (by omega)]; exact h6 k hk j hj
def ML (v : zV) (l : sL) : Prop := (v 116 26 = 0 ∧ l = sUsual) ∨ (v 116 26 = nI l.length ∧ 0 < l.length ∧ ∀ k, k < l.length → v (214 + k) 0 = nI (l.getD k (0, 0)).1 ∧ v (214 + k) 1 = nI (l.getD k (0, 0)).2)
theorem ML_fr {v w : zV} {l : sL} (h : ML v l) (hl : okL l) (e0 : w 116 26 = v 116 26) (e : ∀ a, 214 ≤ a → a ≤ 373 → w a = v a) : ML w l := by
  rcases h with ⟨h1, h2⟩ | ⟨h1, h2, h3⟩
  · exact Or.inl ⟨by rw [e0]; exact h1, h2⟩
  · refine Or.inr ⟨by rw [e0]; exact h1, h2, fun k hk => ?_⟩
    have := hl.2
    rw [e (214 + k) (by omega) (by omega)]
    exact h3 k hk
def pME (v : zV) (α : sA) (l : sL) : Prop := pMA v α ∧ ML v l
/-- the cells of the reference's rows -/
def rowM (r : Nat) : Prop := zlen r = 305 ∧ 561 ≤ r ∧ r ≠ 565 ∧ r ≠ 566 ∧ r ≠ 576 ∧ r < 582 ∧ (r < 572 ∨ 576 < r)
theorem rowM_all : ∀ r ∈ [562, 563, 564, 567, 568, 569, 570, 571, 578, 579, 580, 581], rowM r := by
  unfold rowM
  decide +kernel
def MRf (g : Nat → Int32) (ρ : sR) : Prop :=
  (g 61 = nI (sCh ρ).length ∧ g 98 = nI (sSc ρ 5) ∧ g 99 = nI (sSc ρ 0) ∧ g 100 = nI (sSc ρ 1) ∧ g 101 = nI (sSc ρ 2) ∧ g 102 = nI (sSc ρ 3) ∧ g 103 = nI (sSc ρ 4)) ∧
  (∀ m, m < 16 → g m = nI (sSt ρ m)) ∧ (∀ m, m < 16 → g (16 + m) = nI (sWt ρ m)) ∧ (∀ m, m < 16 → g (32 + m) = sSn ρ m) ∧ (∀ c, c < (sCh ρ).length → g (48 + c) = nI ((sCh ρ).getD c 0)) ∧
  (∀ k, k < sSc ρ 5 → ∃ y, y ≤ sSc ρ 0 ∧ g (62 + 3 * k) = nI y) ∧ (∀ m, m < 16 → zsum (fun k => if g (62 + 3 * k) = nI (sSc ρ 0) ∧ g (62 + 3 * k + 1) = nI m then g (62 + 3 * k + 2) else 0) (sSc ρ 5) = sAs ρ m) ∧
  (∀ y, 1 ≤ y → y ≤ 200 → g (104 + y) = if y < sSc ρ 0 then oI (sTk ρ y) else -2) ∧ (sCh ρ).length ≤ 13 ∧ sSc ρ 5 ≤ 12
def MR (r : Nat) (v : zV) (ρ : sR) : Prop := MRf (v r) ρ
theorem zupRow (v : zV) (r k : Nat) (x : Int32) : zup v r k x r = sUp (v r) k x := by
  funext j
  rw [p_up, sUp_if]
  by_cases e : j = k
  · rw [if_pos ⟨rfl, e⟩, if_pos e]
  · rw [if_neg (fun q => e q.2), if_neg e]
theorem MR_fr {r : Nat} {v w : zV} {ρ : sR} (h : MR r v ρ) (e : w r = v r) : MR r w ρ := by
  unfold MR
  rw [e]
  exact h
theorem MR_cp {r s : Nat} {v w : zV} {ρ : sR} (h : MR s v ρ) (e : ∀ k, k < 305 → w r k = v s k) : MR r w ρ := by
  obtain ⟨⟨h0, h1, h2, h3, h4, h6, h7⟩, hst, hwt, hsn, hch, hpy, hps, htk, hl13, h512⟩ := h
  refine ⟨⟨?_, ?_, ?_, ?_, ?_, ?_, ?_⟩, fun m hm => ?_, fun m hm => ?_, fun m hm => ?_, fun c hc => ?_, fun k hk => ?_, fun m hm => ?_, fun y h8 h9 => ?_, hl13, h512⟩
  · rw [e _ (by decide)]; exact h0
  · rw [e _ (by decide)]; exact h1
  · rw [e _ (by decide)]; exact h2
  · rw [e _ (by decide)]; exact h3
  · rw [e _ (by decide)]; exact h4
  · rw [e _ (by decide)]; exact h6
  · rw [e _ (by decide)]; exact h7
  · rw [e _ (by omega)]; exact hst m hm
  · rw [e _ (by omega)]; exact hwt m hm
  · rw [e _ (by omega)]; exact hsn m hm
  · rw [e _ (by omega)]; exact hch c hc
  · rw [e _ (by omega)]; exact hpy k hk
  · rw [← hps m hm]
    exact zsum_cg _ (fun k hk => by rw [e _ (by omega), e _ (by omega), e _ (by omega)])
  · rw [e _ (by omega)]; exact htk y h8 h9
/-- only the reference's scratch differs -/
def onlyK (v w : zV) : Prop := ∀ a, a ≠ 565 → a ≠ 566 → w a = v a
def onlyM (r : Nat) (v w : zV) : Prop := (∀ a, a ≠ r → a ≠ 565 → a ≠ 566 → a ≠ 576 → a ≠ 116 → w a = v a) ∧ ∀ k, k ≠ 48 → k ≠ 50 → w 116 k = v 116 k
theorem onlyM_rf (r : Nat) (v : zV) : onlyM r v v := ⟨fun _ _ _ _ _ _ => rfl, fun _ _ _ => rfl⟩
theorem onlyM_tr {r : Nat} {v w u : zV} (h1 : onlyM r v w) (h2 : onlyM r w u) : onlyM r v u := ⟨fun a g1 g2 g3 g4 g5 => (h2.1 a g1 g2 g3 g4 g5).trans (h1.1 a g1 g2 g3 g4 g5), fun k g1 g2 => (h2.2 k g1 g2).trans (h1.2 k g1 g2)⟩
theorem onlyK_M {r : Nat} {v w : zV} (h : onlyK v w) : onlyM r v w := ⟨fun a _ g2 g3 _ _ => h a g2 g3, fun k _ _ => by rw [h 116 (by decide) (by decide)]⟩
theorem onlyM_up {r : Nat} (hr : rowM r) (v : zV) (k : Nat) (x : Int32) : onlyM r v (zup v r k x) := ⟨fun a g1 _ _ _ _ => p_up_a v k x g1, fun j _ _ => by rw [p_up_a v k x (by have := hr.2.1; omega)]⟩
theorem ME_M {r : Nat} (hr : rowM r) {v w : zV} {α : sA} {l : sL} (ha : okA α) (hl : okL l) (h : pME v α l) (e : onlyM r v w) : pME w α l := by
  have h1 := hr.2.1
  exact ⟨MA_fr h.1 ha (fun a g1 g2 => e.1 a (by omega) (by omega) (by omega) (by omega) (by omega)), ML_fr h.2 hl (e.2 26 (by decide) (by decide)) (fun a g1 g2 => e.1 a (by omega) (by omega) (by omega) (by omega) (by omega))⟩
theorem ME_K {v w : zV} {α : sA} {l : sL} (ha : okA α) (hl : okL l) (h : pME v α l) (e : onlyK v w) : pME w α l := ME_M (rowM_all 567 (by decide)) ha hl h (onlyK_M e)
theorem p_mChairL {r : Nat} (hr : rowM r) {v : zV} {ρ : sR} (h : MR r v ρ) (ho : okC ρ) {m : Nat} (hm : m < 16) : ∀ (d n j : Nat), d = (sCh ρ).length - j → j ≤ (sCh ρ).length → d < n → fX10_chairOf_2 n r (nI m) (nI j) v = some (sFind (sCh ρ) m j, v) := by
  have h13 := ho.1
  have hlr := hr.1
  have hl := h.1.1
  intro d
  induction d with
  | zero =>
    intro n j hd hj hn
    obtain ⟨n, rfl⟩ : ∃ k, n = k + 1 := ⟨n - 1, by omega⟩
    have e : j = (sCh ρ).length := by omega
    rw [fX10_chairOf_2]
    dsimp only
    simp (disch := omega) only [i_0, i_1, i_2, i_3, i_4, i_5, i_6, i_7, i_8, i_9, i_10, i_11, i_12, i_13, i_14, i_15, i_16, i_17, i_18, i_19, i_20, i_21, i_22, i_23, i_24, i_25, i_26, i_27, i_28, i_29, i_30, i_31, i_32, i_33, i_34, i_35, i_36, i_37, i_38, i_39, i_40, i_41, i_42, i_43, i_44, i_45, i_46, i_47, i_48, i_49, i_50, i_51, i_52, i_53, i_54, i_55, i_56, i_57, i_58, i_59, i_60, i_61, i_62, i_63, i_91, i_93, i_97, i_98, i_99, i_100, i_101, i_102, i_103, i_104, i_122, i_150, i_200, i_255, i_305, i_600, i_729, i_999, i_1365, i_12345, i_32767, i_65536, i_100000, i_1000000, i_1103515245, zlet_eq, zbind_some, zbindv_some, ofN_nI, nI_add, pk_mul, nI_sub', nI_addg, gg_sub, nI_cl', zix_nI, rf_116_9, rf_116_10, rf_116_11, rf_116_12, rf_116_13, rf_116_14, rf_116_15, rf_116_16, rf_116_17, rf_116_18, rf_116_19, rf_116_20, rf_116_21, rf_116_22, rf_116_23, rf_116_24, rf_116_28, rf_116_29, rf_116_30, rf_116_31, rf_116_32, rf_116_33, rf_116_34, rf_116_35, rf_116_36, rf_116_37, rf_116_38, rf_116_39, rf_116_43, rf_116_49, rf_116_51, rf_116_54, rf_116_55, rf_116_56, rf_116_59, ln_127, ln_144, ln_161, ln_174, ln_187, ln_200, ln_213, ln_374, ln_535, ln_548, ln_561, ln_572, ln_577, ln_582, ln_117, ln_118, ln_119, ln_120, ln_121, ln_122, ln_123, ln_124, ln_125, ln_126, ln_565, ln_566, ln_567, ln_568, ln_569, ln_570, ln_571, ln_576, ln_600, ln_601, ln_602, ln_603, hlr, hl]
    rw [if_pos (by rw [e]; exact Int32.le_refl _)]
    unfold sFind
    rw [e, List.drop_length]
    rfl
  | succ d ih =>
    intro n j hd hj hn
    obtain ⟨n, rfl⟩ : ∃ k, n = k + 1 := ⟨n - 1, by omega⟩
    have hjl : j < (sCh ρ).length := by omega
    have hcj := h.2.2.2.2.1 j hjl
    rw [fX10_chairOf_2]
    dsimp only
    simp (disch := omega) only [i_0, i_1, i_2, i_3, i_4, i_5, i_6, i_7, i_8, i_9, i_10, i_11, i_12, i_13, i_14, i_15, i_16, i_17, i_18, i_19, i_20, i_21, i_22, i_23, i_24, i_25, i_26, i_27, i_28, i_29, i_30, i_31, i_32, i_33, i_34, i_35, i_36, i_37, i_38, i_39, i_40, i_41, i_42, i_43, i_44, i_45, i_46, i_47, i_48, i_49, i_50, i_51, i_52, i_53, i_54, i_55, i_56, i_57, i_58, i_59, i_60, i_61, i_62, i_63, i_91, i_93, i_97, i_98, i_99, i_100, i_101, i_102, i_103, i_104, i_122, i_150, i_200, i_255, i_305, i_600, i_729, i_999, i_1365, i_12345, i_32767, i_65536, i_100000, i_1000000, i_1103515245, zlet_eq, zbind_some, zbindv_some, ofN_nI, nI_add, pk_mul, nI_sub', nI_addg, gg_sub, nI_cl', zix_nI, rf_116_9, rf_116_10, rf_116_11, rf_116_12, rf_116_13, rf_116_14, rf_116_15, rf_116_16, rf_116_17, rf_116_18, rf_116_19, rf_116_20, rf_116_21, rf_116_22, rf_116_23, rf_116_24, rf_116_28, rf_116_29, rf_116_30, rf_116_31, rf_116_32, rf_116_33, rf_116_34, rf_116_35, rf_116_36, rf_116_37, rf_116_38, rf_116_39, rf_116_43, rf_116_49, rf_116_51, rf_116_54, rf_116_55, rf_116_56, rf_116_59, ln_127, ln_144, ln_161, ln_174, ln_187, ln_200, ln_213, ln_374, ln_535, ln_548, ln_561, ln_572, ln_577, ln_582, ln_117, ln_118, ln_119, ln_120, ln_121, ln_122, ln_123, ln_124, ln_125, ln_126, ln_565, ln_566, ln_567, ln_568, ln_569, ln_570, ln_571, ln_576, ln_600, ln_601, ln_602, ln_603, hlr, hl, hcj]
    rw [if_neg (nI_ge hjl (by omega)), List.getD_eq_getElem?_getD, List.getElem?_eq_getElem hjl]
    have hm9 : (sCh ρ)[j] < 16 := ho.2.1 _ (List.getElem_mem hjl)
    have hdr : (sCh ρ).drop j = (sCh ρ)[j] :: (sCh ρ).drop (j + 1) := List.drop_eq_getElem_cons hjl
    unfold sFind
    rw [hdr, List.findIdx?_cons]
    by_cases e : (sCh ρ)[j] = m
    · rw [Option.getD_some, e, if_pos rfl]
      simp
    · rw [Option.getD_some, if_neg (fun q => e ((nI_eq (by omega) (by omega)).mp q)), ih n (j + 1) (by omega) (by omega) (by omega)]
      unfold sFind
      have e2 : ((sCh ρ)[j] == m) = false := by simp [e]
      rw [e2]
      cases hf : ((sCh ρ).drop (j + 1)).findIdx? (fun x => x == m) with
      | none => rfl
      | some k =>
        simp only [Option.map_some, Bool.false_eq_true, if_false]
        rw [show j + 1 + k = j + (k + 1) by omega]
theorem p_mChair {r : Nat} (hr : rowM r) {v : zV} {ρ : sR} (h : MR r v ρ) (ho : okC ρ) {m : Nat} (hm : m < 16) : fX10_chairOf r (nI m) v = some (oI (sIx (sCh ρ) m), v) := by
  have h13 := ho.1
  rw [← sFind_ix]
  unfold fX10_chairOf
  exact p_mChairL hr h ho hm _ zFU 0 rfl (Nat.zero_le _) (by unfold zFU; omega)
theorem p_mLast {r : Nat} (hr : rowM r) {v : zV} {ρ : sR} (h : MR r v ρ) (ho : okC ρ) : fX10_lastOf r v = some (oI (sLastO ρ), v) := by
  have h13 := ho.1
  have hlr := hr.1
  have hl := h.1.1
  unfold fX10_lastOf sLastO
  rcases Nat.eq_zero_or_pos (sCh ρ).length with h0 | h0
  · simp (disch := omega) only [i_0, i_1, i_2, i_3, i_4, i_5, i_6, i_7, i_8, i_9, i_10, i_11, i_12, i_13, i_14, i_15, i_16, i_17, i_18, i_19, i_20, i_21, i_22, i_23, i_24, i_25, i_26, i_27, i_28, i_29, i_30, i_31, i_32, i_33, i_34, i_35, i_36, i_37, i_38, i_39, i_40, i_41, i_42, i_43, i_44, i_45, i_46, i_47, i_48, i_49, i_50, i_51, i_52, i_53, i_54, i_55, i_56, i_57, i_58, i_59, i_60, i_61, i_62, i_63, i_91, i_93, i_97, i_98, i_99, i_100, i_101, i_102, i_103, i_104, i_122, i_150, i_200, i_255, i_305, i_600, i_729, i_999, i_1365, i_12345, i_32767, i_65536, i_100000, i_1000000, i_1103515245, zlet_eq, zbind_some, zbindv_some, ofN_nI, nI_add, pk_mul, nI_sub', nI_addg, gg_sub, nI_cl', zix_nI, rf_116_9, rf_116_10, rf_116_11, rf_116_12, rf_116_13, rf_116_14, rf_116_15, rf_116_16, rf_116_17, rf_116_18, rf_116_19, rf_116_20, rf_116_21, rf_116_22, rf_116_23, rf_116_24, rf_116_28, rf_116_29, rf_116_30, rf_116_31, rf_116_32, rf_116_33, rf_116_34, rf_116_35, rf_116_36, rf_116_37, rf_116_38, rf_116_39, rf_116_43, rf_116_49, rf_116_51, rf_116_54, rf_116_55, rf_116_56, rf_116_59, ln_127, ln_144, ln_161, ln_174, ln_187, ln_200, ln_213, ln_374, ln_535, ln_548, ln_561, ln_572, ln_577, ln_582, ln_117, ln_118, ln_119, ln_120, ln_121, ln_122, ln_123, ln_124, ln_125, ln_126, ln_565, ln_566, ln_567, ln_568, ln_569, ln_570, ln_571, ln_576, ln_600, ln_601, ln_602, ln_603, hlr, hl, h0]
    rw [if_pos trivial, if_pos trivial]
    rfl
  · have hcl := h.2.2.2.2.1 ((sCh ρ).length - 1) (by omega)
    rw [if_neg (show ¬ (sCh ρ).length = 0 by omega)]
    simp (disch := omega) only [i_0, i_1, i_2, i_3, i_4, i_5, i_6, i_7, i_8, i_9, i_10, i_11, i_12, i_13, i_14, i_15, i_16, i_17, i_18, i_19, i_20, i_21, i_22, i_23, i_24, i_25, i_26, i_27, i_28, i_29, i_30, i_31, i_32, i_33, i_34, i_35, i_36, i_37, i_38, i_39, i_40, i_41, i_42, i_43, i_44, i_45, i_46, i_47, i_48, i_49, i_50, i_51, i_52, i_53, i_54, i_55, i_56, i_57, i_58, i_59, i_60, i_61, i_62, i_63, i_91, i_93, i_97, i_98, i_99, i_100, i_101, i_102, i_103, i_104, i_122, i_150, i_200, i_255, i_305, i_600, i_729, i_999, i_1365, i_12345, i_32767, i_65536, i_100000, i_1000000, i_1103515245, zlet_eq, zbind_some, zbindv_some, ofN_nI, nI_add, pk_mul, nI_sub', nI_addg, gg_sub, nI_cl', zix_nI, rf_116_9, rf_116_10, rf_116_11, rf_116_12, rf_116_13, rf_116_14, rf_116_15, rf_116_16, rf_116_17, rf_116_18, rf_116_19, rf_116_20, rf_116_21, rf_116_22, rf_116_23, rf_116_24, rf_116_28, rf_116_29, rf_116_30, rf_116_31, rf_116_32, rf_116_33, rf_116_34, rf_116_35, rf_116_36, rf_116_37, rf_116_38, rf_116_39, rf_116_43, rf_116_49, rf_116_51, rf_116_54, rf_116_55, rf_116_56, rf_116_59, ln_127, ln_144, ln_161, ln_174, ln_187, ln_200, ln_213, ln_374, ln_535, ln_548, ln_561, ln_572, ln_577, ln_582, ln_117, ln_118, ln_119, ln_120, ln_121, ln_122, ln_123, ln_124, ln_125, ln_126, ln_565, ln_566, ln_567, ln_568, ln_569, ln_570, ln_571, ln_576, ln_600, ln_601, ln_602, ln_603, hlr, hl]
    rw [if_neg (show ¬ nI (sCh ρ).length = nI 0 from nI_ne0 h0 (by omega)), show 48 + (sCh ρ).length - 1 = 48 + ((sCh ρ).length - 1) by omega, hcl]
    rfl
theorem p_mDiffers {v : zV} {α : sA} (h : pMA v α) (ho : okA α) {a b : Nat} (ha : a < α 0 1) (hb : b < α 0 1) : fX10_differsOf 116 (nI a) (nI b) v = some (nI (sDf α a b), v) := by
  have hM := ho.1.2.1
  have hQ := ho.1.1
  have h0 := h.1 0 (by decide)
  have ra := rfa_144 a (by omega)
  have rb := rfa_144 b (by omega)
  have la := lna_144 a (by omega)
  have lb := lna_144 b (by omega)
  unfold fX10_differsOf
  have := lpE (fun n j (s : Nat) => fX10_differsOf_5 n 116 (nI a) (nI b) (nI s) (nI j) v) (fun q s => s + if decide (α (10 + a) q ≠ α (10 + b) q) = true then 1 else 0) (α 0 0) (fun s => some (nI s, v)) (fun n s => ?_) (fun n j s hj => ?_) (α 0 0) zFU 0 0 (Nat.zero_add _) (by unfold zFU; omega)
  · refine this.trans ?_
    rw [zit_cnt (fun q => decide (α (10 + a) q ≠ α (10 + b) q)), Nat.zero_add]
    rfl
  · show fX10_differsOf_5 (n + 1) 116 (nI a) (nI b) (nI s) (nI (α 0 0)) v = _
    rw [fX10_differsOf_5]
    dsimp only
    simp (disch := omega) only [i_0, i_1, i_2, i_3, i_4, i_5, i_6, i_7, i_8, i_9, i_10, i_11, i_12, i_13, i_14, i_15, i_16, i_17, i_18, i_19, i_20, i_21, i_22, i_23, i_24, i_25, i_26, i_27, i_28, i_29, i_30, i_31, i_32, i_33, i_34, i_35, i_36, i_37, i_38, i_39, i_40, i_41, i_42, i_43, i_44, i_45, i_46, i_47, i_48, i_49, i_50, i_51, i_52, i_53, i_54, i_55, i_56, i_57, i_58, i_59, i_60, i_61, i_62, i_63, i_91, i_93, i_97, i_98, i_99, i_100, i_101, i_102, i_103, i_104, i_122, i_150, i_200, i_255, i_305, i_600, i_729, i_999, i_1365, i_12345, i_32767, i_65536, i_100000, i_1000000, i_1103515245, zlet_eq, zbind_some, zbindv_some, ofN_nI, nI_add, pk_mul, nI_sub', nI_addg, gg_sub, nI_cl', zix_nI, rf_116_9, rf_116_10, rf_116_11, rf_116_12, rf_116_13, rf_116_14, rf_116_15, rf_116_16, rf_116_17, rf_116_18, rf_116_19, rf_116_20, rf_116_21, rf_116_22, rf_116_23, rf_116_24, rf_116_28, rf_116_29, rf_116_30, rf_116_31, rf_116_32, rf_116_33, rf_116_34, rf_116_35, rf_116_36, rf_116_37, rf_116_38, rf_116_39, rf_116_43, rf_116_49, rf_116_51, rf_116_54, rf_116_55, rf_116_56, rf_116_59, ln_127, ln_144, ln_161, ln_174, ln_187, ln_200, ln_213, ln_374, ln_535, ln_548, ln_561, ln_572, ln_577, ln_582, ln_117, ln_118, ln_119, ln_120, ln_121, ln_122, ln_123, ln_124, ln_125, ln_126, ln_565, ln_566, ln_567, ln_568, ln_569, ln_570, ln_571, ln_576, ln_600, ln_601, ln_602, ln_603, h0]
    rw [if_pos (Int32.le_refl _)]
  · show fX10_differsOf_5 (n + 1) 116 (nI a) (nI b) (nI s) (nI j) v = fX10_differsOf_5 n 116 (nI a) (nI b) (nI _) (nI (j + 1)) v
    have b1 := h.2.2.2.2.1 a ha j hj
    have b2 := h.2.2.2.2.1 b hb j hj
    have c1 := okA_bel ho ha j hj
    have c2 := okA_bel ho hb j hj
    rw [fX10_differsOf_5]
    dsimp only
    simp (disch := omega) only [i_0, i_1, i_2, i_3, i_4, i_5, i_6, i_7, i_8, i_9, i_10, i_11, i_12, i_13, i_14, i_15, i_16, i_17, i_18, i_19, i_20, i_21, i_22, i_23, i_24, i_25, i_26, i_27, i_28, i_29, i_30, i_31, i_32, i_33, i_34, i_35, i_36, i_37, i_38, i_39, i_40, i_41, i_42, i_43, i_44, i_45, i_46, i_47, i_48, i_49, i_50, i_51, i_52, i_53, i_54, i_55, i_56, i_57, i_58, i_59, i_60, i_61, i_62, i_63, i_91, i_93, i_97, i_98, i_99, i_100, i_101, i_102, i_103, i_104, i_122, i_150, i_200, i_255, i_305, i_600, i_729, i_999, i_1365, i_12345, i_32767, i_65536, i_100000, i_1000000, i_1103515245, zlet_eq, zbind_some, zbindv_some, ofN_nI, nI_add, pk_mul, nI_sub', nI_addg, gg_sub, nI_cl', zix_nI, rf_116_9, rf_116_10, rf_116_11, rf_116_12, rf_116_13, rf_116_14, rf_116_15, rf_116_16, rf_116_17, rf_116_18, rf_116_19, rf_116_20, rf_116_21, rf_116_22, rf_116_23, rf_116_24, rf_116_28, rf_116_29, rf_116_30, rf_116_31, rf_116_32, rf_116_33, rf_116_34, rf_116_35, rf_116_36, rf_116_37, rf_116_38, rf_116_39, rf_116_43, rf_116_49, rf_116_51, rf_116_54, rf_116_55, rf_116_56, rf_116_59, ln_127, ln_144, ln_161, ln_174, ln_187, ln_200, ln_213, ln_374, ln_535, ln_548, ln_561, ln_572, ln_577, ln_582, ln_117, ln_118, ln_119, ln_120, ln_121, ln_122, ln_123, ln_124, ln_125, ln_126, ln_565, ln_566, ln_567, ln_568, ln_569, ln_570, ln_571, ln_576, ln_600, ln_601, ln_602, ln_603, h0, ra, rb, la, lb, b1, b2]
    rw [if_neg (nI_ge hj (by omega))]
    by_cases e : α (10 + a) j = α (10 + b) j
    · rw [if_pos (congrArg nI e), if_neg (by simp [e])]
    · rw [if_neg (fun q => e ((nI_eq (by omega) (by omega)).mp q)), if_pos (by simp [e])]
/-- hopes of praise -/
def HP (v : zV) (h : Nat → Nat → Int32) : Prop := ∃ n, n ≤ 3 ∧ v 116 44 = nI n ∧ ∀ y m, y < 1000 → m < 16 → zsum (fun k => if v (573 + k) 0 = nI y ∧ v (573 + k) 1 = nI m then v (573 + k) 2 else 0) n = h y m
def sHp (ρ : sR) (h : Nat → Nat → Int32) : sR := rUpAs ρ (fun m => sAs ρ m + h (sSc ρ 0) m)
theorem HP_fr {v w : zV} {h : Nat → Nat → Int32} (hh : HP v h) (e0 : w 116 44 = v 116 44) (e : ∀ a, 573 ≤ a → a ≤ 575 → w a = v a) : HP w h := by
  obtain ⟨n, h1, h2, h3⟩ := hh
  refine ⟨n, h1, by rw [e0]; exact h2, fun y m hy hm => ?_⟩
  rw [← h3 y m hy hm]
  exact zsum_cg _ (fun k hk => by rw [e (573 + k) (by omega) (by omega)])
theorem p_mPraiseH {v : zV} {h : Nat → Nat → Int32} (hh : HP v h) {r : Nat} (hr : rowM r) {ρ : sR} (hR : MR r v ρ) (hy : sSc ρ 0 < 1000) {m : Nat} (hm : m < 16) (s0 : Int32) : fX10_praiseOf_137 zFU 116 r (nI m) s0 0 v = some (s0 + h (sSc ρ 0) m, v) := by
  obtain ⟨n0, hn3, h44, hsum⟩ := hh
  have hlr := hr.1
  have h99 := hR.1.2.2.1
  have := lpE (fun n j s => fX10_praiseOf_137 n 116 r (nI m) s (nI j) v) (fun k s => s + if v (573 + k) 0 = nI (sSc ρ 0) ∧ v (573 + k) 1 = nI m then v (573 + k) 2 else 0) n0 (fun s => some (s, v)) (fun n s => ?_) (fun n j s hj => ?_) n0 zFU 0 s0 (Nat.zero_add _) (by unfold zFU; omega)
  · refine this.trans ?_
    rw [zit_sum, hsum _ m hy hm]
  · show fX10_praiseOf_137 (n + 1) 116 r (nI m) s (nI n0) v = _
    rw [fX10_praiseOf_137]
    dsimp only
    rw [h44, if_pos (Int32.le_refl _)]
  · show fX10_praiseOf_137 (n + 1) 116 r (nI m) s (nI j) v = fX10_praiseOf_137 n 116 r (nI m) _ (nI (j + 1)) v
    have ra := rfa_572 j (by omega)
    have la := lna_572 j (by omega)
    rw [fX10_praiseOf_137]
    dsimp only
    simp (disch := omega) only [i_0, i_1, i_2, i_3, i_4, i_5, i_6, i_7, i_8, i_9, i_10, i_11, i_12, i_13, i_14, i_15, i_16, i_17, i_18, i_19, i_20, i_21, i_22, i_23, i_24, i_25, i_26, i_27, i_28, i_29, i_30, i_31, i_32, i_33, i_34, i_35, i_36, i_37, i_38, i_39, i_40, i_41, i_42, i_43, i_44, i_45, i_46, i_47, i_48, i_49, i_50, i_51, i_52, i_53, i_54, i_55, i_56, i_57, i_58, i_59, i_60, i_61, i_62, i_63, i_91, i_93, i_97, i_98, i_99, i_100, i_101, i_102, i_103, i_104, i_122, i_150, i_200, i_255, i_305, i_600, i_729, i_999, i_1365, i_12345, i_32767, i_65536, i_100000, i_1000000, i_1103515245, zlet_eq, zbind_some, zbindv_some, ofN_nI, nI_add, pk_mul, nI_sub', nI_addg, gg_sub, nI_cl', zix_nI, rf_116_9, rf_116_10, rf_116_11, rf_116_12, rf_116_13, rf_116_14, rf_116_15, rf_116_16, rf_116_17, rf_116_18, rf_116_19, rf_116_20, rf_116_21, rf_116_22, rf_116_23, rf_116_24, rf_116_28, rf_116_29, rf_116_30, rf_116_31, rf_116_32, rf_116_33, rf_116_34, rf_116_35, rf_116_36, rf_116_37, rf_116_38, rf_116_39, rf_116_43, rf_116_49, rf_116_51, rf_116_54, rf_116_55, rf_116_56, rf_116_59, ln_127, ln_144, ln_161, ln_174, ln_187, ln_200, ln_213, ln_374, ln_535, ln_548, ln_561, ln_572, ln_577, ln_582, ln_117, ln_118, ln_119, ln_120, ln_121, ln_122, ln_123, ln_124, ln_125, ln_126, ln_565, ln_566, ln_567, ln_568, ln_569, ln_570, ln_571, ln_576, ln_600, ln_601, ln_602, ln_603, h44, hlr, ra, la, h99]
    rw [if_neg (nI_ge hj (by omega))]
    by_cases c1 : v (573 + j) 0 = nI (sSc ρ 0)
    · by_cases c2 : v (573 + j) 1 = nI m
      · rw [if_pos c1, if_pos c2, if_pos ⟨c1, c2⟩]
      · rw [if_pos c1, if_neg c2, if_neg (fun q => c2 q.2)]
    · rw [if_neg c1, if_neg (fun q => c1 q.1)]
theorem p_mPraiseA {v : zV} {h : Nat → Nat → Int32} (hh : HP v h) {r : Nat} (hr : rowM r) {ρ : sR} (hR : MR r v ρ) (h5 : sSc ρ 5 ≤ 12) (hy : sSc ρ 0 < 1000) {m : Nat} (hm : m < 16) (s0 : Int32) : fX10_praiseOf_70 zFU 116 r (nI m) s0 0 v = some (s0 + (sAs ρ m + h (sSc ρ 0) m), v) := by
  have hlr := hr.1
  have h99 := hR.1.2.2.1
  have h98 := hR.1.2.1
  have := lpE (fun n j s => fX10_praiseOf_70 n 116 r (nI m) s (nI j) v) (fun k s => s + if v r (62 + 3 * k) = nI (sSc ρ 0) ∧ v r (62 + 3 * k + 1) = nI m then v r (62 + 3 * k + 2) else 0) (sSc ρ 5) (fun s => some (s + h (sSc ρ 0) m, v)) (fun n s => ?_) (fun n j s hj => ?_) (sSc ρ 5) zFU 0 s0 (Nat.zero_add _) (by unfold zFU; omega)
  · refine this.trans ?_
    rw [zit_sum, hR.2.2.2.2.2.2.1 m hm, Int32.add_assoc]
  · show fX10_praiseOf_70 (n + 1) 116 r (nI m) s (nI (sSc ρ 5)) v = _
    rw [fX10_praiseOf_70]
    dsimp only
    simp (disch := omega) only [i_0, i_1, i_2, i_3, i_4, i_5, i_6, i_7, i_8, i_9, i_10, i_11, i_12, i_13, i_14, i_15, i_16, i_17, i_18, i_19, i_20, i_21, i_22, i_23, i_24, i_25, i_26, i_27, i_28, i_29, i_30, i_31, i_32, i_33, i_34, i_35, i_36, i_37, i_38, i_39, i_40, i_41, i_42, i_43, i_44, i_45, i_46, i_47, i_48, i_49, i_50, i_51, i_52, i_53, i_54, i_55, i_56, i_57, i_58, i_59, i_60, i_61, i_62, i_63, i_91, i_93, i_97, i_98, i_99, i_100, i_101, i_102, i_103, i_104, i_122, i_150, i_200, i_255, i_305, i_600, i_729, i_999, i_1365, i_12345, i_32767, i_65536, i_100000, i_1000000, i_1103515245, zlet_eq, zbind_some, zbindv_some, ofN_nI, nI_add, pk_mul, nI_sub', nI_addg, gg_sub, nI_cl', zix_nI, rf_116_9, rf_116_10, rf_116_11, rf_116_12, rf_116_13, rf_116_14, rf_116_15, rf_116_16, rf_116_17, rf_116_18, rf_116_19, rf_116_20, rf_116_21, rf_116_22, rf_116_23, rf_116_24, rf_116_28, rf_116_29, rf_116_30, rf_116_31, rf_116_32, rf_116_33, rf_116_34, rf_116_35, rf_116_36, rf_116_37, rf_116_38, rf_116_39, rf_116_43, rf_116_49, rf_116_51, rf_116_54, rf_116_55, rf_116_56, rf_116_59, ln_127, ln_144, ln_161, ln_174, ln_187, ln_200, ln_213, ln_374, ln_535, ln_548, ln_561, ln_572, ln_577, ln_582, ln_117, ln_118, ln_119, ln_120, ln_121, ln_122, ln_123, ln_124, ln_125, ln_126, ln_565, ln_566, ln_567, ln_568, ln_569, ln_570, ln_571, ln_576, ln_600, ln_601, ln_602, ln_603, hlr, h98]
    rw [if_pos (Int32.le_refl _)]
    exact p_mPraiseH hh hr hR hy hm s
  · show fX10_praiseOf_70 (n + 1) 116 r (nI m) s (nI j) v = fX10_praiseOf_70 n 116 r (nI m) _ (nI (j + 1)) v
    rw [fX10_praiseOf_70]
    dsimp only
    simp (disch := omega) only [i_0, i_1, i_2, i_3, i_4, i_5, i_6, i_7, i_8, i_9, i_10, i_11, i_12, i_13, i_14, i_15, i_16, i_17, i_18, i_19, i_20, i_21, i_22, i_23, i_24, i_25, i_26, i_27, i_28, i_29, i_30, i_31, i_32, i_33, i_34, i_35, i_36, i_37, i_38, i_39, i_40, i_41, i_42, i_43, i_44, i_45, i_46, i_47, i_48, i_49, i_50, i_51, i_52, i_53, i_54, i_55, i_56, i_57, i_58, i_59, i_60, i_61, i_62, i_63, i_91, i_93, i_97, i_98, i_99, i_100, i_101, i_102, i_103, i_104, i_122, i_150, i_200, i_255, i_305, i_600, i_729, i_999, i_1365, i_12345, i_32767, i_65536, i_100000, i_1000000, i_1103515245, zlet_eq, zbind_some, zbindv_some, ofN_nI, nI_add, pk_mul, nI_sub', nI_addg, gg_sub, nI_cl', zix_nI, rf_116_9, rf_116_10, rf_116_11, rf_116_12, rf_116_13, rf_116_14, rf_116_15, rf_116_16, rf_116_17, rf_116_18, rf_116_19, rf_116_20, rf_116_21, rf_116_22, rf_116_23, rf_116_24, rf_116_28, rf_116_29, rf_116_30, rf_116_31, rf_116_32, rf_116_33, rf_116_34, rf_116_35, rf_116_36, rf_116_37, rf_116_38, rf_116_39, rf_116_43, rf_116_49, rf_116_51, rf_116_54, rf_116_55, rf_116_56, rf_116_59, ln_127, ln_144, ln_161, ln_174, ln_187, ln_200, ln_213, ln_374, ln_535, ln_548, ln_561, ln_572, ln_577, ln_582, ln_117, ln_118, ln_119, ln_120, ln_121, ln_122, ln_123, ln_124, ln_125, ln_126, ln_565, ln_566, ln_567, ln_568, ln_569, ln_570, ln_571, ln_576, ln_600, ln_601, ln_602, ln_603, hlr, h98, h99]
    rw [if_neg (nI_ge hj (by omega))]
    by_cases c1 : v r (62 + 3 * j) = nI (sSc ρ 0)
    · by_cases c2 : v r (62 + 3 * j + 1) = nI m
      · rw [if_pos c1, if_pos c2, if_pos ⟨c1, c2⟩]
      · rw [if_pos c1, if_neg c2, if_neg (fun q => c2 q.2)]
    · rw [if_neg c1, if_neg (fun q => c1 q.1)]
theorem p_mPraise {v : zV} {h : Nat → Nat → Int32} (hh : HP v h) {α : sA} (hA : pMA v α) (ha : okA α) {r : Nat} (hr : rowM r) {ρ : sR} (hR : MR r v ρ) (h5 : sSc ρ 5 ≤ 12) (hy : sSc ρ 0 < 1000) {m : Nat} (hm : m < 16) : fX10_praiseOf 116 r (nI m) v = some (sPr α m (sSc ρ 0) + (sAs ρ m + h (sSc ρ 0) m), v) := by
  have hlr := hr.1
  have h99 := hR.1.2.2.1
  have hP := ha.1.2.2.2.2.2.2
  have h0 := hA.1 5 (by decide)
  unfold fX10_praiseOf
  have := lpE (fun n j s => fX10_praiseOf_5 n 116 r (nI m) s (nI j) v) (fun k s => s + if α (50 + k) 1 = m ∧ α (50 + k) 0 = sSc ρ 0 then nI (α (50 + k) 2) else 0) (α 0 5) (fun s => some (s + (sAs ρ m + h (sSc ρ 0) m), v)) (fun n s => ?_) (fun n j s hj => ?_) (α 0 5) zFU 0 0 (Nat.zero_add _) (by unfold zFU; omega)
  · refine this.trans ?_
    rw [zit_sum, Int32.zero_add]
    rfl
  · show fX10_praiseOf_5 (n + 1) 116 r (nI m) s (nI (α 0 5)) v = _
    rw [fX10_praiseOf_5]
    dsimp only
    simp (disch := omega) only [i_0, i_1, i_2, i_3, i_4, i_5, i_6, i_7, i_8, i_9, i_10, i_11, i_12, i_13, i_14, i_15, i_16, i_17, i_18, i_19, i_20, i_21, i_22, i_23, i_24, i_25, i_26, i_27, i_28, i_29, i_30, i_31, i_32, i_33, i_34, i_35, i_36, i_37, i_38, i_39, i_40, i_41, i_42, i_43, i_44, i_45, i_46, i_47, i_48, i_49, i_50, i_51, i_52, i_53, i_54, i_55, i_56, i_57, i_58, i_59, i_60, i_61, i_62, i_63, i_91, i_93, i_97, i_98, i_99, i_100, i_101, i_102, i_103, i_104, i_122, i_150, i_200, i_255, i_305, i_600, i_729, i_999, i_1365, i_12345, i_32767, i_65536, i_100000, i_1000000, i_1103515245, zlet_eq, zbind_some, zbindv_some, ofN_nI, nI_add, pk_mul, nI_sub', nI_addg, gg_sub, nI_cl', zix_nI, rf_116_9, rf_116_10, rf_116_11, rf_116_12, rf_116_13, rf_116_14, rf_116_15, rf_116_16, rf_116_17, rf_116_18, rf_116_19, rf_116_20, rf_116_21, rf_116_22, rf_116_23, rf_116_24, rf_116_28, rf_116_29, rf_116_30, rf_116_31, rf_116_32, rf_116_33, rf_116_34, rf_116_35, rf_116_36, rf_116_37, rf_116_38, rf_116_39, rf_116_43, rf_116_49, rf_116_51, rf_116_54, rf_116_55, rf_116_56, rf_116_59, ln_127, ln_144, ln_161, ln_174, ln_187, ln_200, ln_213, ln_374, ln_535, ln_548, ln_561, ln_572, ln_577, ln_582, ln_117, ln_118, ln_119, ln_120, ln_121, ln_122, ln_123, ln_124, ln_125, ln_126, ln_565, ln_566, ln_567, ln_568, ln_569, ln_570, ln_571, ln_576, ln_600, ln_601, ln_602, ln_603, hlr, h0]
    rw [if_pos (Int32.le_refl _)]
    exact p_mPraiseA hh hr hR h5 hy hm s
  · show fX10_praiseOf_5 (n + 1) 116 r (nI m) s (nI j) v = fX10_praiseOf_5 n 116 r (nI m) _ (nI (j + 1)) v
    have ra := rfa_200 j (by omega)
    have la := lna_200 j (by omega)
    have e0 := hA.2.2.2.2.2.2 j hj 0 (by decide)
    have e1 := hA.2.2.2.2.2.2 j hj 1 (by decide)
    have e2 := hA.2.2.2.2.2.2 j hj 2 (by decide)
    obtain ⟨g1, g2, g3, g4, g5⟩ := ha.2.2.2.2.2.2.2 j hj
    have hM := ha.1.2.1
    rw [fX10_praiseOf_5]
    dsimp only
    simp (disch := omega) only [i_0, i_1, i_2, i_3, i_4, i_5, i_6, i_7, i_8, i_9, i_10, i_11, i_12, i_13, i_14, i_15, i_16, i_17, i_18, i_19, i_20, i_21, i_22, i_23, i_24, i_25, i_26, i_27, i_28, i_29, i_30, i_31, i_32, i_33, i_34, i_35, i_36, i_37, i_38, i_39, i_40, i_41, i_42, i_43, i_44, i_45, i_46, i_47, i_48, i_49, i_50, i_51, i_52, i_53, i_54, i_55, i_56, i_57, i_58, i_59, i_60, i_61, i_62, i_63, i_91, i_93, i_97, i_98, i_99, i_100, i_101, i_102, i_103, i_104, i_122, i_150, i_200, i_255, i_305, i_600, i_729, i_999, i_1365, i_12345, i_32767, i_65536, i_100000, i_1000000, i_1103515245, zlet_eq, zbind_some, zbindv_some, ofN_nI, nI_add, pk_mul, nI_sub', nI_addg, gg_sub, nI_cl', zix_nI, rf_116_9, rf_116_10, rf_116_11, rf_116_12, rf_116_13, rf_116_14, rf_116_15, rf_116_16, rf_116_17, rf_116_18, rf_116_19, rf_116_20, rf_116_21, rf_116_22, rf_116_23, rf_116_24, rf_116_28, rf_116_29, rf_116_30, rf_116_31, rf_116_32, rf_116_33, rf_116_34, rf_116_35, rf_116_36, rf_116_37, rf_116_38, rf_116_39, rf_116_43, rf_116_49, rf_116_51, rf_116_54, rf_116_55, rf_116_56, rf_116_59, ln_127, ln_144, ln_161, ln_174, ln_187, ln_200, ln_213, ln_374, ln_535, ln_548, ln_561, ln_572, ln_577, ln_582, ln_117, ln_118, ln_119, ln_120, ln_121, ln_122, ln_123, ln_124, ln_125, ln_126, ln_565, ln_566, ln_567, ln_568, ln_569, ln_570, ln_571, ln_576, ln_600, ln_601, ln_602, ln_603, hlr, h0, h99, ra, la, e0, e1, e2, nI_eq']
    rw [if_neg (nI_ge hj (by omega))]
    by_cases c1 : α (50 + j) 0 = sSc ρ 0
    · by_cases c2 : α (50 + j) 1 = m
      · rw [if_pos c1, if_pos c2, if_pos ⟨c2, c1⟩]
      · rw [if_pos c1, if_neg c2, if_neg (fun q => c2 q.1)]
    · rw [if_neg c1, if_neg (fun q => c1 q.2)]
end
