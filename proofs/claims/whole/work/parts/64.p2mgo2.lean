/-! the reference: a year, copies of rows -/
section
theorem sTk_new {α : sA} (ha : okA α) {n : Nat} {ρ : sR} (ho : okW α n ρ) {o : Option Nat} (hoo : ∀ m, o = some m → m < α 0 1 ∧ sSt ρ m = 0) : sTk (sTake ρ o) (sSc ρ 0) = o := by
  have hy := ho.2.2.2.2.2.1
  have hsn := ho.2.2.2.2.2.2.2.1
  have hM := ha.1.2.1
  have hne : ∀ k, sSn ρ k ≠ nI (sSc ρ 0) := by
    intro k q
    rcases hsn k with h | ⟨y, h1, h2⟩
    · rw [h, show (-1 : Int32) = -nI 1 from rfl, ng_eq2 (by omega) (by decide) (by decide)] at q
      exact q
    · rw [h2] at q
      have := (nI_eq (by omega) (by omega)).mp q
      omega
  unfold sTk
  cases o with
  | none =>
    rw [List.find?_eq_none]
    intro k _
    show ¬ (sSn ρ k == nI (sSc ρ 0)) = true
    rw [beq_iff_eq]
    exact hne k
  | some m =>
    obtain ⟨hm, -⟩ := hoo m rfl
    rw [List.find?_range_eq_some]
    refine ⟨?_, List.mem_range.mpr (by omega), fun k hk => ?_⟩
    · show (sUp (sSn ρ) m (nI (sSc ρ 0)) m == nI (sSc ρ 0)) = true
      rw [sUp_s, beq_self_eq_true]
    · show (!(sUp (sSn ρ) m (nI (sSc ρ 0)) k == nI (sSc ρ 0))) = true
      rw [sUp_n _ _ (by omega), Bool.not_eq_true', beq_eq_false_iff_ne]
      exact hne k
theorem sUp_id {β : Type} (f : Nat → β) (k : Nat) : sUp f k (f k) = f := by
  funext j
  rw [sUp_if]
  split
  · rename_i h; rw [h]
  · rfl
theorem sAfter_hp (α : sA) (ρ : sR) (h : Nat → Nat → Int32) (o : Option Nat) : sAfter α (sHp ρ h) o = sAfter α ρ o := by
  unfold sAfter sFull
  cases o with
  | none =>
    by_cases c : α 0 2 < (sCh (sTake ρ none)).length
    · rw [if_pos c, if_pos (show α 0 2 < (sCh (sTake (sHp ρ h) none)).length from c)]
      rfl
    · rw [if_neg c, if_neg (show ¬ α 0 2 < (sCh (sTake (sHp ρ h) none)).length from c)]
      rfl
  | some m =>
    by_cases c : α 0 2 < (sCh (sTake ρ (some m))).length
    · rw [if_pos c, if_pos (show α 0 2 < (sCh (sTake (sHp ρ h) (some m))).length from c)]
      rfl
    · rw [if_neg c, if_neg (show ¬ α 0 2 < (sCh (sTake (sHp ρ h) (some m))).length from c)]
      rfl
def onlyN (r : Nat) (v w : zV) : Prop := onlyM r v w ∧ w 116 48 = v 116 48
theorem onlyN_rf (r : Nat) (v : zV) : onlyN r v v := ⟨onlyM_rf r v, rfl⟩
theorem onlyN_tr {r : Nat} {v w u : zV} (h1 : onlyN r v w) (h2 : onlyN r w u) : onlyN r v u := ⟨onlyM_tr h1.1 h2.1, h2.2.trans h1.2⟩
theorem onlyN_up {r : Nat} (hr : rowM r) (v : zV) (k : Nat) (x : Int32) : onlyN r v (zup v r k x) := ⟨onlyM_up hr v k x, by rw [p_up_a v k x (by have := hr.2.1; omega)]⟩
theorem onlyK_N {r : Nat} {v w : zV} (h : onlyK v w) : onlyN r v w := ⟨onlyK_M h, by rw [h 116 (by decide) (by decide)]⟩
theorem p_mGo139 {r : Nat} (hr : rowM r) {v : zV} {ρ : sR} (h : MR r v ρ) (hy : 1 ≤ sSc ρ 0 ∧ sSc ρ 0 < 1000) {o : Option Nat} (hk : sTk ρ (sSc ρ 0) = o) : ∃ w, fX10_goes_139 116 r (oI o) v = some w ∧ MR r w (rUpAs (rUpSc ρ (sUp (sSc ρ) 0 (sSc ρ 0 + 1))) (fun _ => 0)) ∧ w 116 50 = oI o ∧ onlyN r v w := by
  have hlr := hr.1
  have hr5 := hr.2.1
  have h99 := h.1.2.2.1
  have hne : r ≠ 116 := by omega
  unfold fX10_goes_139
  by_cases h200 : 200 < sSc ρ 0
  · have e99 : zup v 116 50 (oI o) r 99 = nI (sSc ρ 0) := by rw [p_up_a _ _ _ hne]; exact h99
    simp (disch := omega) only [↓reduceIte, i_0, i_1, i_2, i_3, i_4, i_5, i_6, i_7, i_8, i_9, i_10, i_11, i_12, i_13, i_14, i_15, i_16, i_17, i_18, i_19, i_20, i_21, i_22, i_23, i_24, i_25, i_26, i_27, i_28, i_29, i_30, i_31, i_32, i_33, i_34, i_35, i_36, i_37, i_38, i_39, i_40, i_41, i_42, i_43, i_44, i_45, i_46, i_47, i_48, i_49, i_50, i_51, i_52, i_53, i_54, i_55, i_56, i_57, i_58, i_59, i_60, i_61, i_62, i_63, i_91, i_93, i_97, i_98, i_99, i_100, i_101, i_102, i_103, i_104, i_122, i_150, i_200, i_255, i_305, i_600, i_729, i_999, i_1365, i_12345, i_32767, i_65536, i_100000, i_1000000, i_1103515245, zlet_eq, zbind_some, zbindv_some, ofN_nI, nI_add, pk_mul, nI_sub', nI_addg, gg_sub, nI_cl', zix_nI, rf_116_9, rf_116_10, rf_116_11, rf_116_12, rf_116_13, rf_116_14, rf_116_15, rf_116_16, rf_116_17, rf_116_18, rf_116_19, rf_116_20, rf_116_21, rf_116_22, rf_116_23, rf_116_24, rf_116_28, rf_116_29, rf_116_30, rf_116_31, rf_116_32, rf_116_33, rf_116_34, rf_116_35, rf_116_36, rf_116_37, rf_116_38, rf_116_39, rf_116_43, rf_116_49, rf_116_51, rf_116_54, rf_116_55, rf_116_56, rf_116_59, ln_127, ln_144, ln_161, ln_174, ln_187, ln_200, ln_213, ln_374, ln_535, ln_548, ln_561, ln_572, ln_577, ln_582, ln_117, ln_118, ln_119, ln_120, ln_121, ln_122, ln_123, ln_124, ln_125, ln_126, ln_565, ln_566, ln_567, ln_568, ln_569, ln_570, ln_571, ln_576, ln_600, ln_601, ln_602, ln_603, hlr, h99, e99]
    rw [if_pos (nI_lt h200 (by omega))]
    refine ⟨_, rfl, ?_, ?_, ⟨fun a g1 g2 g3 g4 g5 => ?_, fun k g1 g2 => ?_⟩, ?_⟩
    · unfold MR
      rw [zupRow, p_up_a _ _ _ hne]
      exact MRf_age h hy.2 (w := v r) (fun _ _ => rfl) (fun q => by omega)
    · rw [p_up_a _ _ _ (Ne.symm hne), p_up_s]
    · rw [p_up_a _ _ _ g1, p_up_a _ _ _ g5]
    · rw [p_up_a _ _ _ (Ne.symm hne), p_up_n _ _ (Or.inr g2)]
    · rw [p_up_a _ _ _ (Ne.symm hne), p_up_n _ _ (Or.inr (by decide))]
  · have e99 : zup (zup v r (104 + sSc ρ 0) (oI o)) 116 50 (oI o) r 99 = nI (sSc ρ 0) := by rw [p_up_a _ _ _ hne, p_up_n _ _ (Or.inr (by omega))]; exact h99
    simp (disch := omega) only [↓reduceIte, i_0, i_1, i_2, i_3, i_4, i_5, i_6, i_7, i_8, i_9, i_10, i_11, i_12, i_13, i_14, i_15, i_16, i_17, i_18, i_19, i_20, i_21, i_22, i_23, i_24, i_25, i_26, i_27, i_28, i_29, i_30, i_31, i_32, i_33, i_34, i_35, i_36, i_37, i_38, i_39, i_40, i_41, i_42, i_43, i_44, i_45, i_46, i_47, i_48, i_49, i_50, i_51, i_52, i_53, i_54, i_55, i_56, i_57, i_58, i_59, i_60, i_61, i_62, i_63, i_91, i_93, i_97, i_98, i_99, i_100, i_101, i_102, i_103, i_104, i_122, i_150, i_200, i_255, i_305, i_600, i_729, i_999, i_1365, i_12345, i_32767, i_65536, i_100000, i_1000000, i_1103515245, zlet_eq, zbind_some, zbindv_some, ofN_nI, nI_add, pk_mul, nI_sub', nI_addg, gg_sub, nI_cl', zix_nI, rf_116_9, rf_116_10, rf_116_11, rf_116_12, rf_116_13, rf_116_14, rf_116_15, rf_116_16, rf_116_17, rf_116_18, rf_116_19, rf_116_20, rf_116_21, rf_116_22, rf_116_23, rf_116_24, rf_116_28, rf_116_29, rf_116_30, rf_116_31, rf_116_32, rf_116_33, rf_116_34, rf_116_35, rf_116_36, rf_116_37, rf_116_38, rf_116_39, rf_116_43, rf_116_49, rf_116_51, rf_116_54, rf_116_55, rf_116_56, rf_116_59, ln_127, ln_144, ln_161, ln_174, ln_187, ln_200, ln_213, ln_374, ln_535, ln_548, ln_561, ln_572, ln_577, ln_582, ln_117, ln_118, ln_119, ln_120, ln_121, ln_122, ln_123, ln_124, ln_125, ln_126, ln_565, ln_566, ln_567, ln_568, ln_569, ln_570, ln_571, ln_576, ln_600, ln_601, ln_602, ln_603, hlr, h99, e99]
    rw [if_neg (nI_nlt (by omega) (by omega))]
    refine ⟨_, rfl, ?_, ?_, ⟨fun a g1 g2 g3 g4 g5 => ?_, fun k g1 g2 => ?_⟩, ?_⟩
    · unfold MR
      rw [zupRow, p_up_a _ _ _ hne]
      refine MRf_age h hy.2 (w := zup v r (104 + sSc ρ 0) (oI o) r) (fun k hk => p_up_n _ _ (Or.inr (by omega))) (fun q => ?_)
      rw [p_up_s, hk]
    · rw [p_up_a _ _ _ (Ne.symm hne), p_up_s]
    · rw [p_up_a _ _ _ g1, p_up_a _ _ _ g5, p_up_a _ _ _ g1]
    · rw [p_up_a _ _ _ (Ne.symm hne), p_up_n _ _ (Or.inr g2), p_up_a _ _ _ (Ne.symm hne)]
    · rw [p_up_a _ _ _ (Ne.symm hne), p_up_n _ _ (Or.inr (by decide)), p_up_a _ _ _ (Ne.symm hne)]
theorem p_mGo101 {α : sA} (ha : okA α) {r : Nat} (hr : rowM r) {v : zV} {ρ : sR} (hE : pMA v α) (h : MR r v ρ) (hy : 1 ≤ sSc ρ 0 ∧ sSc ρ 0 < 1000) (h4 : ∀ m, sSt ρ m < 4) {o : Option Nat} (hk : sTk ρ (sSc ρ 0) = o) : ∃ w, fX10_goes_101 zFU 116 r (oI o) 0 v = some w ∧ MR r w (sAge α ρ) ∧ w 116 50 = oI o ∧ onlyN r v w := by
  have hM := ha.1.2.1
  have hlr := hr.1
  have hr5 := hr.2.1
  refine lpR (fun n j (_ : Nat → Nat) v => fX10_goes_101 n 116 r (oI o) (nI j) v) (sWaitS ρ) (α 0 1) (fun _ f w => MR r w (rUpWt ρ f) ∧ onlyN r v w) (fun f w => MR r w (rUpAs (rUpSc (rUpWt ρ f) (sUp (sSc ρ) 0 (sSc ρ 0 + 1))) (fun _ => 0)) ∧ w 116 50 = oI o ∧ onlyN r v w) (fun n1 f w hK => ?_) (fun n1 j f w hj hK => ?_) (α 0 1) zFU 0 (sWt ρ) v (Nat.zero_add _) (by unfold zFU; omega) ⟨h, onlyN_rf r v⟩
  · obtain ⟨hR, hon⟩ := hK
    have h120 : w 120 1 = nI (α 0 1) := by rw [hon.1.1 120 (by omega) (by decide) (by decide) (by decide) (by decide)]; exact hE.1 1 (by decide)
    obtain ⟨u, hu, hur, hu50, huon⟩ := p_mGo139 hr hR hy (o := o) hk
    refine ⟨u, ?_, hur, hu50, onlyN_tr hon huon⟩
    show fX10_goes_101 (n1 + 1) 116 r (oI o) (nI (α 0 1)) w = some u
    rw [fX10_goes_101]
    dsimp only
    simp (disch := omega) only [↓reduceIte, i_0, i_1, i_2, i_3, i_4, i_5, i_6, i_7, i_8, i_9, i_10, i_11, i_12, i_13, i_14, i_15, i_16, i_17, i_18, i_19, i_20, i_21, i_22, i_23, i_24, i_25, i_26, i_27, i_28, i_29, i_30, i_31, i_32, i_33, i_34, i_35, i_36, i_37, i_38, i_39, i_40, i_41, i_42, i_43, i_44, i_45, i_46, i_47, i_48, i_49, i_50, i_51, i_52, i_53, i_54, i_55, i_56, i_57, i_58, i_59, i_60, i_61, i_62, i_63, i_91, i_93, i_97, i_98, i_99, i_100, i_101, i_102, i_103, i_104, i_122, i_150, i_200, i_255, i_305, i_600, i_729, i_999, i_1365, i_12345, i_32767, i_65536, i_100000, i_1000000, i_1103515245, zlet_eq, zbind_some, zbindv_some, ofN_nI, nI_add, pk_mul, nI_sub', nI_addg, gg_sub, nI_cl', zix_nI, rf_116_9, rf_116_10, rf_116_11, rf_116_12, rf_116_13, rf_116_14, rf_116_15, rf_116_16, rf_116_17, rf_116_18, rf_116_19, rf_116_20, rf_116_21, rf_116_22, rf_116_23, rf_116_24, rf_116_28, rf_116_29, rf_116_30, rf_116_31, rf_116_32, rf_116_33, rf_116_34, rf_116_35, rf_116_36, rf_116_37, rf_116_38, rf_116_39, rf_116_43, rf_116_49, rf_116_51, rf_116_54, rf_116_55, rf_116_56, rf_116_59, ln_127, ln_144, ln_161, ln_174, ln_187, ln_200, ln_213, ln_374, ln_535, ln_548, ln_561, ln_572, ln_577, ln_582, ln_117, ln_118, ln_119, ln_120, ln_121, ln_122, ln_123, ln_124, ln_125, ln_126, ln_565, ln_566, ln_567, ln_568, ln_569, ln_570, ln_571, ln_576, ln_600, ln_601, ln_602, ln_603, h120]
    rw [if_pos (Int32.le_refl _)]
    exact hu
  · obtain ⟨hR, hon⟩ := hK
    have h120 : w 120 1 = nI (α 0 1) := by rw [hon.1.1 120 (by omega) (by decide) (by decide) (by decide) (by decide)]; exact hE.1 1 (by decide)
    have hst : w r j = nI (sSt ρ j) := hR.2.1 j (by omega)
    have hwt : w r (16 + j) = nI (f j) := hR.2.2.1 j (by omega)
    have hs4 := h4 j
    show ∃ u, fX10_goes_101 (n1 + 1) 116 r (oI o) (nI j) w = fX10_goes_101 n1 116 r (oI o) (nI (j + 1)) u ∧ _
    rw [fX10_goes_101]
    dsimp only
    simp (disch := omega) only [↓reduceIte, i_0, i_1, i_2, i_3, i_4, i_5, i_6, i_7, i_8, i_9, i_10, i_11, i_12, i_13, i_14, i_15, i_16, i_17, i_18, i_19, i_20, i_21, i_22, i_23, i_24, i_25, i_26, i_27, i_28, i_29, i_30, i_31, i_32, i_33, i_34, i_35, i_36, i_37, i_38, i_39, i_40, i_41, i_42, i_43, i_44, i_45, i_46, i_47, i_48, i_49, i_50, i_51, i_52, i_53, i_54, i_55, i_56, i_57, i_58, i_59, i_60, i_61, i_62, i_63, i_91, i_93, i_97, i_98, i_99, i_100, i_101, i_102, i_103, i_104, i_122, i_150, i_200, i_255, i_305, i_600, i_729, i_999, i_1365, i_12345, i_32767, i_65536, i_100000, i_1000000, i_1103515245, zlet_eq, zbind_some, zbindv_some, ofN_nI, nI_add, pk_mul, nI_sub', nI_addg, gg_sub, nI_cl', zix_nI, rf_116_9, rf_116_10, rf_116_11, rf_116_12, rf_116_13, rf_116_14, rf_116_15, rf_116_16, rf_116_17, rf_116_18, rf_116_19, rf_116_20, rf_116_21, rf_116_22, rf_116_23, rf_116_24, rf_116_28, rf_116_29, rf_116_30, rf_116_31, rf_116_32, rf_116_33, rf_116_34, rf_116_35, rf_116_36, rf_116_37, rf_116_38, rf_116_39, rf_116_43, rf_116_49, rf_116_51, rf_116_54, rf_116_55, rf_116_56, rf_116_59, ln_127, ln_144, ln_161, ln_174, ln_187, ln_200, ln_213, ln_374, ln_535, ln_548, ln_561, ln_572, ln_577, ln_582, ln_117, ln_118, ln_119, ln_120, ln_121, ln_122, ln_123, ln_124, ln_125, ln_126, ln_565, ln_566, ln_567, ln_568, ln_569, ln_570, ln_571, ln_576, ln_600, ln_601, ln_602, ln_603, hlr, h120, hst, hwt, Nat.zero_add, nI_eq']
    rw [if_neg (nI_ge hj (by omega))]
    unfold sWaitS
    by_cases hc : sSt ρ j = 0
    · rw [if_pos hc, if_pos hc]
      refine ⟨_, rfl, ?_, onlyN_tr hon (onlyN_up hr w _ _)⟩
      unfold MR
      rw [zupRow]
      exact MRf_wt hR (by omega) _
    · rw [if_neg hc, if_neg hc]
      refine ⟨_, rfl, ?_, onlyN_tr hon (onlyN_up hr w _ _)⟩
      unfold MR
      rw [zupRow, Nat.add_zero]
      have := MRf_wt hR (m := j) (by omega) (f j)
      rw [show sUp (sWt (rUpWt ρ f)) j (f j) = f from sUp_id f j] at this
      exact this
theorem sFull_sn (α : sA) (ρ : sR) : sSn (sFull α ρ) = sSn ρ := by
  unfold sFull
  split <;> rfl
theorem p_mGo81 {α : sA} (ha : okA α) {r : Nat} (hr : rowM r) {v : zV} {ρ : sR} (hE : pMA v α) (h : MR r v ρ) {b : Nat} (ho : okB α (α 0 2 + 1) b ρ) {o : Option Nat} (hk : sTk ρ (sSc ρ 0) = o) : ∃ w, fX10_goes_81 116 r (oI o) v = some w ∧ MR r w (sAge α (sFull α ρ)) ∧ w 116 50 = oI o ∧ onlyN r v w := by
  have hC := ha.1.2.2.2.1
  have hlr := hr.1
  have hr5 := hr.2.1
  have hoC := okB_C ha (show α 0 2 + 1 ≤ 13 by omega) ho
  have hoF := okB_full ha ho
  have h13 := hoC.1
  have h61 := h.1.1
  have h120 := hE.1 2 (by decide)
  have hk2 : sTk (sFull α ρ) (sSc (sFull α ρ) 0) = o := by
    rw [sFull_year]
    unfold sTk
    rw [sFull_sn]
    exact hk
  have hyF := hoF.2.2.2.2.2.1
  have h4F := hoF.2.2.2.1
  unfold fX10_goes_81
  unfold sFull at hk2 hyF h4F ⊢
  simp (disch := omega) only [↓reduceIte, i_0, i_1, i_2, i_3, i_4, i_5, i_6, i_7, i_8, i_9, i_10, i_11, i_12, i_13, i_14, i_15, i_16, i_17, i_18, i_19, i_20, i_21, i_22, i_23, i_24, i_25, i_26, i_27, i_28, i_29, i_30, i_31, i_32, i_33, i_34, i_35, i_36, i_37, i_38, i_39, i_40, i_41, i_42, i_43, i_44, i_45, i_46, i_47, i_48, i_49, i_50, i_51, i_52, i_53, i_54, i_55, i_56, i_57, i_58, i_59, i_60, i_61, i_62, i_63, i_91, i_93, i_97, i_98, i_99, i_100, i_101, i_102, i_103, i_104, i_122, i_150, i_200, i_255, i_305, i_600, i_729, i_999, i_1365, i_12345, i_32767, i_65536, i_100000, i_1000000, i_1103515245, zlet_eq, zbind_some, zbindv_some, ofN_nI, nI_add, pk_mul, nI_sub', nI_addg, gg_sub, nI_cl', zix_nI, rf_116_9, rf_116_10, rf_116_11, rf_116_12, rf_116_13, rf_116_14, rf_116_15, rf_116_16, rf_116_17, rf_116_18, rf_116_19, rf_116_20, rf_116_21, rf_116_22, rf_116_23, rf_116_24, rf_116_28, rf_116_29, rf_116_30, rf_116_31, rf_116_32, rf_116_33, rf_116_34, rf_116_35, rf_116_36, rf_116_37, rf_116_38, rf_116_39, rf_116_43, rf_116_49, rf_116_51, rf_116_54, rf_116_55, rf_116_56, rf_116_59, ln_127, ln_144, ln_161, ln_174, ln_187, ln_200, ln_213, ln_374, ln_535, ln_548, ln_561, ln_572, ln_577, ln_582, ln_117, ln_118, ln_119, ln_120, ln_121, ln_122, ln_123, ln_124, ln_125, ln_126, ln_565, ln_566, ln_567, ln_568, ln_569, ln_570, ln_571, ln_576, ln_600, ln_601, ln_602, ln_603, hlr, h61, h120]
  by_cases e : α 0 2 < (sCh ρ).length
  · rw [if_neg (nI_ge e (by omega)), if_pos e]
    rw [if_pos e] at hk2 hyF h4F
    obtain ⟨w, hw, hwr, hon⟩ := p_mLeaves hr h hoC (c := 0) (by omega)
    have honM : onlyN r v w := ⟨⟨fun a g1 _ _ _ _ => hon a g1, fun k _ _ => by rw [hon 116 (by omega)]⟩, by rw [hon 116 (by omega)]⟩
    obtain ⟨u, hu, hur, hu50, huon⟩ := p_mGo101 ha hr (MA_fr hE ha (fun a g1 g2 => hon a (by omega))) hwr hyF h4F hk2
    refine ⟨u, ?_, hur, hu50, onlyN_tr honM huon⟩
    rw [hw, zbindv_some]
    exact hu
  · rw [if_pos (nI_le (by omega) (by omega)), if_neg e]
    rw [if_neg e] at hk2 hyF h4F
    exact p_mGo101 ha hr hE h hyF h4F hk2
theorem p_mGo17 {α : sA} {l : sL} (ha : okA α) (hl : okL l) {v : zV} (hE : pME v α l) {h : Nat → Nat → Int32} (hh : HP v h) {r : Nat} (hr : rowM r) {ρ : sR} (hR : MR r v ρ) (ho : okR α ρ) : ∃ w, fX10_goes_17 116 r v = some w ∧ MR r w (sSettle α l (sHp ρ h)).2 ∧ w 116 50 = oI (sSettle α l (sHp ρ h)).1 ∧ onlyN r v w := by
  have hC := ha.1.2.2.2.1
  have hM := ha.1.2.1
  have hlr := hr.1
  have hr5 := hr.2.1
  have hr566 := hr.2.2.2.1
  have hr565 := hr.2.2.1
  have hn : α 0 2 ≤ 13 := by omega
  obtain ⟨w, hw, hwk⟩ := p_mChosen ha hl hE hh hr hR hn ho
  have hEw : pMA w α := (ME_K ha hl hE hwk).1
  have hRw : MR r w ρ := MR_fr hR (hwk r hr565 hr566)
  unfold fX10_goes_17
  rw [hw, zbind_some]
  show ∃ u, _ = some u ∧ MR r u (sAfter α (sHp ρ h) (sChoose α (sHp ρ h) (sScore α l (sHp ρ h)))) ∧ u 116 50 = oI (sChoose α (sHp ρ h) (sScore α l (sHp ρ h))) ∧ onlyN r v u
  rw [sAfter_hp]
  generalize ho2 : sChoose α (sHp ρ h) (sScore α l (sHp ρ h)) = o
  have hoo : ∀ m, o = some m → m < α 0 1 ∧ sSt ρ m = 0 := fun m hm => sChoose_ok (ρ := sHp ρ h) (ho2.trans hm)
  have hB := okB_take ho hoo
  have hy := ho.2.2.2.2.2.1
  have hlen := ho.1
  have hT : sTk (sTake ρ o) (sSc (sTake ρ o) 0) = o := by rw [sTake_year]; exact sTk_new ha ho hoo
  unfold sAfter
  cases o with
  | none =>
    have h100 := hRw.1.2.2.2.1
    rw [oI_none, if_pos (show -nI 1 = (-1 : Int32) from rfl)]
    simp (disch := omega) only [↓reduceIte, i_0, i_1, i_2, i_3, i_4, i_5, i_6, i_7, i_8, i_9, i_10, i_11, i_12, i_13, i_14, i_15, i_16, i_17, i_18, i_19, i_20, i_21, i_22, i_23, i_24, i_25, i_26, i_27, i_28, i_29, i_30, i_31, i_32, i_33, i_34, i_35, i_36, i_37, i_38, i_39, i_40, i_41, i_42, i_43, i_44, i_45, i_46, i_47, i_48, i_49, i_50, i_51, i_52, i_53, i_54, i_55, i_56, i_57, i_58, i_59, i_60, i_61, i_62, i_63, i_91, i_93, i_97, i_98, i_99, i_100, i_101, i_102, i_103, i_104, i_122, i_150, i_200, i_255, i_305, i_600, i_729, i_999, i_1365, i_12345, i_32767, i_65536, i_100000, i_1000000, i_1103515245, zlet_eq, zbind_some, zbindv_some, ofN_nI, nI_add, pk_mul, nI_sub', nI_addg, gg_sub, nI_cl', zix_nI, rf_116_9, rf_116_10, rf_116_11, rf_116_12, rf_116_13, rf_116_14, rf_116_15, rf_116_16, rf_116_17, rf_116_18, rf_116_19, rf_116_20, rf_116_21, rf_116_22, rf_116_23, rf_116_24, rf_116_28, rf_116_29, rf_116_30, rf_116_31, rf_116_32, rf_116_33, rf_116_34, rf_116_35, rf_116_36, rf_116_37, rf_116_38, rf_116_39, rf_116_43, rf_116_49, rf_116_51, rf_116_54, rf_116_55, rf_116_56, rf_116_59, ln_127, ln_144, ln_161, ln_174, ln_187, ln_200, ln_213, ln_374, ln_535, ln_548, ln_561, ln_572, ln_577, ln_582, ln_117, ln_118, ln_119, ln_120, ln_121, ln_122, ln_123, ln_124, ln_125, ln_126, ln_565, ln_566, ln_567, ln_568, ln_569, ln_570, ln_571, ln_576, ln_600, ln_601, ln_602, ln_603, hlr, h100]
    have hr2 : MR r (zup w r 100 (nI (sSc ρ 1 + 1))) (sTake ρ none) := by
      unfold MR
      rw [zupRow]
      exact MRf_sc hRw (k := 100) (j := 1) (Or.inl ⟨rfl, rfl⟩) _
    obtain ⟨u, hu, hur, hu50, huon⟩ := p_mGo81 ha hr (MA_fr hEw ha (fun a g1 g2 => p_up_a _ _ _ (by omega))) hr2 hB hT
    exact ⟨u, hu, hur, hu50, onlyN_tr (onlyK_N hwk) (onlyN_tr (onlyN_up hr w _ _) huon)⟩
  | some m =>
    obtain ⟨hm, hm0⟩ := hoo m rfl
    have hsn1 : sSn ρ m = -1 := ho.2.2.2.2.2.2.1 m hm0
    have h61 := hRw.1.1
    have h99 := hRw.1.2.2.1
    have h101 := hRw.1.2.2.2.2.1
    have e99 : zup w r m (nI 1) r 99 = nI (sSc ρ 0) := by rw [p_up_n _ _ (Or.inr (by omega))]; exact h99
    have e61 : zup (zup w r m (nI 1)) r (32 + m) (nI (sSc ρ 0)) r 61 = nI (sCh ρ).length := by rw [p_up_n _ _ (Or.inr (by omega)), p_up_n _ _ (Or.inr (by omega))]; exact h61
    have e61b : zup (zup (zup w r m (nI 1)) r (32 + m) (nI (sSc ρ 0))) r (48 + (sCh ρ).length) (nI m) r 61 = nI (sCh ρ).length := by rw [p_up_n _ _ (Or.inr (by omega))]; exact e61
    have e101 : zup (zup (zup (zup w r m (nI 1)) r (32 + m) (nI (sSc ρ 0))) r (48 + (sCh ρ).length) (nI m)) r 61 (nI ((sCh ρ).length + 1)) r 101 = nI (sSc ρ 2) := by rw [p_up_n _ _ (Or.inr (by omega)), p_up_n _ _ (Or.inr (by omega)), p_up_n _ _ (Or.inr (by omega)), p_up_n _ _ (Or.inr (by omega))]; exact h101
    rw [oI_some, if_neg (show ¬ nI m = -1 from fun q => by rw [show (-1 : Int32) = -nI 1 from rfl, ng_eq (by omega) (by decide) (by decide)] at q; exact q)]
    simp (disch := omega) only [↓reduceIte, i_0, i_1, i_2, i_3, i_4, i_5, i_6, i_7, i_8, i_9, i_10, i_11, i_12, i_13, i_14, i_15, i_16, i_17, i_18, i_19, i_20, i_21, i_22, i_23, i_24, i_25, i_26, i_27, i_28, i_29, i_30, i_31, i_32, i_33, i_34, i_35, i_36, i_37, i_38, i_39, i_40, i_41, i_42, i_43, i_44, i_45, i_46, i_47, i_48, i_49, i_50, i_51, i_52, i_53, i_54, i_55, i_56, i_57, i_58, i_59, i_60, i_61, i_62, i_63, i_91, i_93, i_97, i_98, i_99, i_100, i_101, i_102, i_103, i_104, i_122, i_150, i_200, i_255, i_305, i_600, i_729, i_999, i_1365, i_12345, i_32767, i_65536, i_100000, i_1000000, i_1103515245, zlet_eq, zbind_some, zbindv_some, ofN_nI, nI_add, pk_mul, nI_sub', nI_addg, gg_sub, nI_cl', zix_nI, rf_116_9, rf_116_10, rf_116_11, rf_116_12, rf_116_13, rf_116_14, rf_116_15, rf_116_16, rf_116_17, rf_116_18, rf_116_19, rf_116_20, rf_116_21, rf_116_22, rf_116_23, rf_116_24, rf_116_28, rf_116_29, rf_116_30, rf_116_31, rf_116_32, rf_116_33, rf_116_34, rf_116_35, rf_116_36, rf_116_37, rf_116_38, rf_116_39, rf_116_43, rf_116_49, rf_116_51, rf_116_54, rf_116_55, rf_116_56, rf_116_59, ln_127, ln_144, ln_161, ln_174, ln_187, ln_200, ln_213, ln_374, ln_535, ln_548, ln_561, ln_572, ln_577, ln_582, ln_117, ln_118, ln_119, ln_120, ln_121, ln_122, ln_123, ln_124, ln_125, ln_126, ln_565, ln_566, ln_567, ln_568, ln_569, ln_570, ln_571, ln_576, ln_600, ln_601, ln_602, ln_603, hlr, Nat.zero_add, e99, e61, e61b, e101]
    have hr2 : MR r (zup (zup (zup (zup (zup w r m (nI 1)) r (32 + m) (nI (sSc ρ 0))) r (48 + (sCh ρ).length) (nI m)) r 61 (nI ((sCh ρ).length + 1))) r 101 (nI (sSc ρ 2 + 1))) (sTake ρ (some m)) := by
      unfold MR
      rw [zupRow, zupRow, zupRow, zupRow, zupRow]
      exact MRf_sc (MRf_push (MRf_sn (MRf_st hRw (m := m) (by omega) 1) (m := m) (by omega) hsn1 hy.2) (show (sCh ρ).length < 13 by omega) m) (k := 101) (j := 2) (Or.inr (Or.inl ⟨rfl, rfl⟩)) (sSc ρ 2 + 1)
    have honM : onlyN r w (zup (zup (zup (zup (zup w r m (nI 1)) r (32 + m) (nI (sSc ρ 0))) r (48 + (sCh ρ).length) (nI m)) r 61 (nI ((sCh ρ).length + 1))) r 101 (nI (sSc ρ 2 + 1))) := onlyN_tr (onlyN_tr (onlyN_tr (onlyN_tr (onlyN_up hr _ _ _) (onlyN_up hr _ _ _)) (onlyN_up hr _ _ _)) (onlyN_up hr _ _ _)) (onlyN_up hr _ _ _)
    generalize zup (zup (zup (zup (zup w r m (nI 1)) r (32 + m) (nI (sSc ρ 0))) r (48 + (sCh ρ).length) (nI m)) r 61 (nI ((sCh ρ).length + 1))) r 101 (nI (sSc ρ 2 + 1)) = t at hr2 honM
    obtain ⟨u, hu, hur, hu50, huon⟩ := p_mGo81 ha hr (MA_fr hEw ha (fun a g1 g2 => honM.1.1 a (by omega) (by omega) (by omega) (by omega) (by omega))) hr2 hB hT
    exact ⟨u, hu, hur, hu50, onlyN_tr (onlyK_N hwk) (onlyN_tr honM huon)⟩
/-- a year, without fates -/
def sPassM (α : sA) (l : sL) (mo : Option (Nat × Nat)) (h : Nat → Nat → Int32) (ρ : sR) : Option Nat × sR := sSettle α l (sHp (sMore α mo (sTell α ρ)) h)
theorem p_mGoes {α : sA} {l : sL} (ha : okA α) (hl : okL l) {v : zV} (hE : pME v α l) {h : Nat → Nat → Int32} (hh : HP v h) {mo : Option (Nat × Nat)} (hmo : MO v α mo) (h47 : v 116 47 = 0) {r : Nat} (hr : rowM r) {ρ : sR} (hR : MR r v ρ) (ho : okR α ρ) : ∃ w, fX10_goes 116 r v = some w ∧ MR r w (sPassM α l mo h ρ).2 ∧ w 116 50 = oI (sPassM α l mo h ρ).1 ∧ onlyM r v w := by
  have hC := ha.1.2.2.2.1
  have hr5 := hr.2.1
  have hr82 := hr.2.2.2.2.2
  obtain ⟨w, hw, hwr, hwo, hon⟩ := p_mDeaths ha hr (show α 0 2 ≤ 13 by omega) hE.1 hR ho hmo
  have honM : onlyM r v w := ⟨fun a g1 _ _ _ _ => hon a g1, fun k _ _ => by rw [hon 116 (by omega)]⟩
  obtain ⟨u, hu, hur, hu50, huon⟩ := p_mGo17 ha hl (ME_M hr ha hl hE honM) (HP_fr hh (by rw [hon 116 (by omega)]) (fun a g1 g2 => hon a (by omega))) hr hwr hwo
  refine ⟨u, ?_, hur, hu50, onlyM_tr honM huon.1⟩
  unfold fX10_goes
  rw [hw, zbindv_some, hon 116 (by omega), h47, if_pos (Int32.le_refl _)]
  exact hu
theorem p_mCopies {r s : Nat} (hr : rowM r) (hs : rowM s) (hrs : r ≠ s) (v : zV) : ∃ w, fX10_copies s r v = some w ∧ (∀ k, k < 305 → w r k = v s k) ∧ ∀ a, a ≠ r → w a = v a := by
  have hlr := hr.1
  have hls := hs.1
  unfold fX10_copies
  refine lpR (σ := Unit) (fun n j _ v => fX10_copies_2 n s r (nI j) v) (fun _ x => x) 305 (fun j _ w => (∀ k, k < j → w r k = v s k) ∧ ∀ a, a ≠ r → w a = v a) (fun _ w => (∀ k, k < 305 → w r k = v s k) ∧ ∀ a, a ≠ r → w a = v a) (fun n1 _ w hK => ?_) (fun n1 j _ w hj hK => ?_) 305 zFU 0 () v rfl (by unfold zFU; omega) ⟨fun k hk => absurd hk (Nat.not_lt_zero k), fun _ _ => rfl⟩
  · refine ⟨w, ?_, hK⟩
    show fX10_copies_2 (n1 + 1) s r (nI 305) w = some w
    rw [fX10_copies_2]
    dsimp only
    rw [if_pos (by decide)]
  · show ∃ u, fX10_copies_2 (n1 + 1) s r (nI j) w = fX10_copies_2 n1 s r (nI (j + 1)) u ∧ _
    rw [fX10_copies_2]
    dsimp only
    simp (disch := omega) only [↓reduceIte, i_0, i_1, i_2, i_3, i_4, i_5, i_6, i_7, i_8, i_9, i_10, i_11, i_12, i_13, i_14, i_15, i_16, i_17, i_18, i_19, i_20, i_21, i_22, i_23, i_24, i_25, i_26, i_27, i_28, i_29, i_30, i_31, i_32, i_33, i_34, i_35, i_36, i_37, i_38, i_39, i_40, i_41, i_42, i_43, i_44, i_45, i_46, i_47, i_48, i_49, i_50, i_51, i_52, i_53, i_54, i_55, i_56, i_57, i_58, i_59, i_60, i_61, i_62, i_63, i_91, i_93, i_97, i_98, i_99, i_100, i_101, i_102, i_103, i_104, i_122, i_150, i_200, i_255, i_305, i_600, i_729, i_999, i_1365, i_12345, i_32767, i_65536, i_100000, i_1000000, i_1103515245, zlet_eq, zbind_some, zbindv_some, ofN_nI, nI_add, pk_mul, nI_sub', nI_addg, gg_sub, nI_cl', zix_nI, rf_116_9, rf_116_10, rf_116_11, rf_116_12, rf_116_13, rf_116_14, rf_116_15, rf_116_16, rf_116_17, rf_116_18, rf_116_19, rf_116_20, rf_116_21, rf_116_22, rf_116_23, rf_116_24, rf_116_28, rf_116_29, rf_116_30, rf_116_31, rf_116_32, rf_116_33, rf_116_34, rf_116_35, rf_116_36, rf_116_37, rf_116_38, rf_116_39, rf_116_43, rf_116_49, rf_116_51, rf_116_54, rf_116_55, rf_116_56, rf_116_59, ln_127, ln_144, ln_161, ln_174, ln_187, ln_200, ln_213, ln_374, ln_535, ln_548, ln_561, ln_572, ln_577, ln_582, ln_117, ln_118, ln_119, ln_120, ln_121, ln_122, ln_123, ln_124, ln_125, ln_126, ln_565, ln_566, ln_567, ln_568, ln_569, ln_570, ln_571, ln_576, ln_600, ln_601, ln_602, ln_603, hlr, hls]
    rw [if_neg (nI_ge hj (by decide))]
    refine ⟨_, rfl, fun k hk => ?_, fun a g => (p_up_a _ _ _ g).trans (hK.2 a g)⟩
    rw [p_up]
    by_cases e : k = j
    · rw [if_pos ⟨rfl, e⟩, e, hK.2 s (Ne.symm hrs)]
    · rw [if_neg (fun q => e q.2)]
      exact hK.1 k (by omega)
end
