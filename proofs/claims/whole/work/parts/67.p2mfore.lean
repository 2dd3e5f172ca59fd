/-! the reference: the years ahead -/
section
/-- what the reference keeps -/
def frM (v w : zV) : Prop := (∀ a, a ≠ 116 → a ≠ 565 → a ≠ 566 → (a < 570 ∨ 602 < a) → w a = v a) ∧ ∀ k, k ≠ 45 → k ≠ 48 → k ≠ 50 → k ≠ 52 → k ≠ 53 → k ≠ 57 → k ≠ 58 → w 116 k = v 116 k
theorem frM_rf (v : zV) : frM v v := ⟨fun _ _ _ _ _ => rfl, fun _ _ _ _ _ _ _ _ => rfl⟩
theorem frM_tr {v w u : zV} (h1 : frM v w) (h2 : frM w u) : frM v u := ⟨fun a g1 g2 g3 g4 => (h2.1 a g1 g2 g3 g4).trans (h1.1 a g1 g2 g3 g4), fun k g1 g2 g3 g4 g5 g6 g7 => (h2.2 k g1 g2 g3 g4 g5 g6 g7).trans (h1.2 k g1 g2 g3 g4 g5 g6 g7)⟩
theorem frM_M {r : Nat} (hr : 570 ≤ r) (hr2 : r ≤ 602) {v w : zV} (h : onlyM r v w) : frM v w := ⟨fun a g1 g2 g3 g4 => h.1 a (by omega) g2 g3 (by omega) g1, fun k _ g3 g4 _ _ _ _ => h.2 k g3 g4⟩
theorem frM_K {v w : zV} (h : onlyK v w) : frM v w := ⟨fun a _ g2 g3 _ => h a g2 g3, fun k _ _ _ _ _ _ _ => by rw [h 116 (by decide) (by decide)]⟩
theorem frM_c {r : Nat} (hr : 570 ≤ r) (hr2 : r ≤ 602) {v w : zV} (h : ∀ a, a ≠ r → w a = v a) : frM v w := ⟨fun a _ _ _ g4 => h a (by omega), fun k _ _ _ _ _ _ _ => by rw [h 116 (by omega)]⟩
/-- what a question asks of, in the reference -/
def MQ0 (v : zV) : Prop := v 116 44 = 0 ∧ v 116 46 = -1 ∧ v 116 47 = 0
def MQ' (v : zV) (α : sA) (l : sL) (ρ : sR) : Prop := pME v α l ∧ MR 567 v ρ ∧ MQ0 v
theorem pME_f {v w : zV} {α : sA} {l : sL} (ha : okA α) (hl : okL l) (h : pME v α l) (e : frM v w) : pME w α l := ⟨MA_fr h.1 ha (fun a g1 g2 => e.1 a (by omega) (by omega) (by omega) (by omega)), ML_fr h.2 hl (e.2 26 (by decide) (by decide) (by decide) (by decide) (by decide) (by decide) (by decide)) (fun a g1 g2 => e.1 a (by omega) (by omega) (by omega) (by omega))⟩
theorem MQ0_f {v w : zV} (h : MQ0 v) (e : frM v w) : MQ0 w := ⟨(e.2 44 (by decide) (by decide) (by decide) (by decide) (by decide) (by decide) (by decide)).trans h.1, (e.2 46 (by decide) (by decide) (by decide) (by decide) (by decide) (by decide) (by decide)).trans h.2.1, (e.2 47 (by decide) (by decide) (by decide) (by decide) (by decide) (by decide) (by decide)).trans h.2.2⟩
theorem MQ'_f {v w : zV} {α : sA} {l : sL} {ρ : sR} (ha : okA α) (hl : okL l) (h : MQ' v α l ρ) (e : frM v w) : MQ' w α l ρ := ⟨pME_f ha hl h.1 e, MR_fr h.2.1 (e.1 567 (by decide) (by decide) (by decide) (by decide)), MQ0_f h.2.2 e⟩
theorem MQ'_0 {v : zV} {α : sA} {l : sL} {ρ : sR} (ha : okA α) (hl : okL l) (h : MQ' v α l ρ) (x : Int32) : MQ' (zup v 116 0 x) α l ρ := by
  have e : ∀ a, a ≠ 116 → zup v 116 0 x a = v a := fun a g => p_up_a _ _ _ g
  have e2 : ∀ k, k ≠ 0 → zup v 116 0 x 116 k = v 116 k := fun k g => p_up_n _ _ (Or.inr g)
  exact ⟨⟨MA_fr h.1.1 ha (fun a g1 g2 => e a (by omega)), ML_fr h.1.2 hl (e2 26 (by decide)) (fun a g1 g2 => e a (by omega))⟩, MR_fr h.2.1 (e 567 (by decide)), (e2 44 (by decide)).trans h.2.2.1, (e2 46 (by decide)).trans h.2.2.2.1, (e2 47 (by decide)).trans h.2.2.2.2⟩
theorem HP_0 {v : zV} (h : v 116 44 = 0) : HP v (fun _ _ => 0) := ⟨0, by decide, h, fun _ _ _ _ => rfl⟩
theorem sHp_0 (ρ : sR) : sHp ρ (fun _ _ => 0) = ρ := by
  unfold sHp
  have : (fun m => sAs ρ m + 0) = sAs ρ := funext fun m => Int32.add_zero _
  rw [this]
  rfl
theorem sPassM_0 (α : sA) (l : sL) (ρ : sR) : sPassM α l none (fun _ _ => 0) ρ = sPass α l ρ := by
  unfold sPassM sMore
  rw [sHp_0]
  rfl
theorem m567 : rowM 567 := rowM_all 567 (by decide)
theorem m570 : rowM 570 := rowM_all 570 (by decide)
/-- the reference's trial in its course -/
def pTM (v0 : zV) (α : sA) (l : sL) (w : zV) (ρ : sR) : Prop := pME w α l ∧ MR 570 w ρ ∧ okR α ρ ∧ MQ0 w ∧ frM v0 w
theorem p_mTrial {v : zV} {α : sA} {l : sL} {ρ : sR} (h : MQ' v α l ρ) (ho : OKs α l ρ) : ∃ w, fX10_copies 567 570 v = some w ∧ pTM v α l w ρ := by
  obtain ⟨w, hw, hk, ha⟩ := p_mCopies m570 m567 (by decide) v
  have hf : frM v w := frM_c (by decide) (by decide) ha
  exact ⟨w, hw, pME_f ho.1 ho.2.1 h.1 hf, MR_cp h.2.1 hk, ho.2.2.1, MQ0_f h.2.2 hf, hf⟩
theorem p_mPassT {v0 w : zV} {α : sA} {l : sL} {ρ : sR} (ha : okA α) (hl : okL l) (h : pTM v0 α l w ρ) (hy : sSc ρ 0 < 900) : ∃ u, fX10_goes 116 570 w = some u ∧ u 116 50 = oI (sPass α l ρ).1 ∧ pTM v0 α l u (sPass α l ρ).2 ∧ sSc (sPass α l ρ).2 0 = sSc ρ 0 + 1 := by
  obtain ⟨h1, h2, h3, ⟨h44, h46, h47⟩, h5⟩ := h
  obtain ⟨u, hu, hr, h50, hon⟩ := p_mGoes ha hl h1 (HP_0 h44) (mo := none) h46 h47 m570 h2 h3
  rw [sPassM_0] at hr h50
  have hf := frM_M (r := 570) (by decide) (by decide) hon
  obtain ⟨g1, g2⟩ := okR_pass (l := l) ha h3 hy
  exact ⟨u, hu, h50, ⟨pME_f ha hl h1 hf, hr, g1, MQ0_f ⟨h44, h46, h47⟩ hf, frM_tr h5 hf⟩, g2⟩
theorem p_mNext {v : zV} {α : sA} {l : sL} {ρ : sR} (h : MQ' v α l ρ) (ho : OKs α l ρ) : ∃ w, fX10_next 116 v = some (oI (sPass α l ρ).1, w) ∧ frM (zup v 116 0 0) w := by
  obtain ⟨w, hw, hT⟩ := p_mTrial (MQ'_0 ho.1 ho.2.1 h 0) ho
  obtain ⟨u, hu, h50, hT2, -⟩ := p_mPassT ho.1 ho.2.1 hT (by have := ho.2.2.2; omega)
  refine ⟨u, ?_, hT2.2.2.2.2⟩
  unfold fX10_next
  rw [zlet_eq, rf_116_35, rf_116_38, hw, zbindv_some, hu, zbindv_some, h50]
theorem p_mAheadL {v0 : zV} {α : sA} {l : sL} {ρ0 : sR} (ha : okA α) (hl : okL l) (h0 : MQ' v0 α l ρ0) (y what : Nat) (hy60 : y ≤ 60) (hwh : what ≤ 2) : ∀ (d n j : Nat) (ρ : sR) (w : zV), j + d = y → d < n → pTM v0 α l w ρ → sSc ρ 0 + d < 900 → ∃ u, fX10_ahead_53 n 116 (nI y) (nI what) (nI j) w = some (sAhead ρ0 (sGo α l d ρ) what, u) ∧ frM v0 u := by
  intro d
  induction d with
  | zero =>
    intro n j ρ w hj hn hT hyr
    obtain ⟨n, rfl⟩ : ∃ k, n = k + 1 := ⟨n - 1, by omega⟩
    obtain rfl : j = y := by omega
    refine ⟨w, ?_, hT.2.2.2.2⟩
    have hoC := okW_C ha (ok_13 ha) hT.2.2.1
    rw [fX10_ahead_53]
    dsimp only
    rw [if_pos (Int32.le_refl _)]
    unfold fX10_ahead_72 sAhead
    have h61 := hT.2.1.1.1
    have h100 := hT.2.1.1.2.2.2.1
    have g100 : w 567 100 = nI (sSc ρ0 1) := by rw [hT.2.2.2.2.1 567 (by decide) (by decide) (by decide) (by decide)]; exact h0.2.1.1.2.2.2.1
    have hlast := p_mLast m570 hT.2.1 hoC
    simp (disch := omega) only [↓reduceIte, i_0, i_1, i_2, i_3, i_4, i_5, i_6, i_7, i_8, i_9, i_10, i_11, i_12, i_13, i_14, i_15, i_16, i_17, i_18, i_19, i_20, i_21, i_22, i_23, i_24, i_25, i_26, i_27, i_28, i_29, i_30, i_31, i_32, i_33, i_34, i_35, i_36, i_37, i_38, i_39, i_40, i_41, i_42, i_43, i_44, i_45, i_46, i_47, i_48, i_49, i_50, i_51, i_52, i_53, i_54, i_55, i_56, i_57, i_58, i_59, i_60, i_61, i_62, i_63, i_91, i_93, i_97, i_98, i_99, i_100, i_101, i_102, i_103, i_104, i_122, i_150, i_200, i_255, i_305, i_600, i_729, i_999, i_1365, i_12345, i_32767, i_65536, i_100000, i_1000000, i_1103515245, zlet_eq, zbind_some, zbindv_some, ofN_nI, nI_add, pk_mul, nI_sub', nI_addg, gg_sub, nI_cl', zix_nI, rf_116_9, rf_116_10, rf_116_11, rf_116_12, rf_116_13, rf_116_14, rf_116_15, rf_116_16, rf_116_17, rf_116_18, rf_116_19, rf_116_20, rf_116_21, rf_116_22, rf_116_23, rf_116_24, rf_116_28, rf_116_29, rf_116_30, rf_116_31, rf_116_32, rf_116_33, rf_116_34, rf_116_35, rf_116_36, rf_116_37, rf_116_38, rf_116_39, rf_116_43, rf_116_49, rf_116_51, rf_116_54, rf_116_55, rf_116_56, rf_116_59, ln_127, ln_144, ln_161, ln_174, ln_187, ln_200, ln_213, ln_374, ln_535, ln_548, ln_561, ln_572, ln_577, ln_582, ln_117, ln_118, ln_119, ln_120, ln_121, ln_122, ln_123, ln_124, ln_125, ln_126, ln_565, ln_566, ln_567, ln_568, ln_569, ln_570, ln_571, ln_576, ln_600, ln_601, ln_602, ln_603, hlast, h61, h100, g100, nI_eq', sGo]
    by_cases c0 : what = 0
    · rw [if_pos c0, if_pos c0]
    · rw [if_neg c0, if_neg c0]
      by_cases c1 : what = 1
      · rw [if_pos c1, if_pos c1]
      · rw [if_neg c1, if_neg c1]
  | succ d ih =>
    intro n j ρ w hj hn hT hyr
    obtain ⟨n, rfl⟩ : ∃ k, n = k + 1 := ⟨n - 1, by omega⟩
    obtain ⟨u, hu, h50, hT2, hy2⟩ := p_mPassT ha hl hT (by omega)
    obtain ⟨x, hx, hxf⟩ := ih n (j + 1) (sPass α l ρ).2 u (by omega) (by omega) hT2 (by omega)
    refine ⟨x, ?_, hxf⟩
    rw [fX10_ahead_53]
    dsimp only
    rw [if_neg (nI_ge (by omega) (by omega)), rf_116_38, hu, zbindv_some, nI_1, hx]
    rfl
theorem p_mAhead {v : zV} {α : sA} {l : sL} {ρ : sR} (h : MQ' v α l ρ) (ho : OKs α l ρ) {y what : Nat} (hy60 : y ≤ 60) (hwh : what ≤ 2) : ∃ w, (zbindv (fX10_copies 567 570 v) fun v_3 => fX10_ahead_53 zFU 116 (nI y) (nI what) 0 v_3) = some (sAhead ρ (sGo α l y ρ) what, w) ∧ frM v w := by
  obtain ⟨w, hw, hT⟩ := p_mTrial h ho
  obtain ⟨u, hu, huf⟩ := p_mAheadL ho.1 ho.2.1 h y what hy60 hwh y zFU 0 ρ w (Nat.zero_add _) (by unfold zFU; omega) hT (by have := ho.2.2.2; omega)
  refine ⟨u, ?_, huf⟩
  rw [hw, zbindv_some]
  exact hu
theorem p_mWhenL {v0 : zV} {α : sA} {l : sL} (ha : okA α) (hl : okL l) (x : Int32) : ∀ (d n j : Nat) (ρ : sR) (w : zV), j + d = 60 → d < n → pTM v0 α l w ρ → sSc ρ 0 + d < 900 → ∃ u, fX10_whenOf_2 n 116 570 x (nI j) w = some (sWhen α l x d ρ, u) ∧ frM v0 u := by
  intro d
  induction d with
  | zero =>
    intro n j ρ w hj hn hT hyr
    obtain ⟨n, rfl⟩ : ∃ k, n = k + 1 := ⟨n - 1, by omega⟩
    obtain rfl : j = 60 := by omega
    refine ⟨w, ?_, hT.2.2.2.2⟩
    rw [fX10_whenOf_2]
    dsimp only
    rw [if_pos (by decide)]
    rfl
  | succ d ih =>
    intro n j ρ w hj hn hT hyr
    obtain ⟨n, rfl⟩ : ∃ k, n = k + 1 := ⟨n - 1, by omega⟩
    obtain ⟨u, hu, h50, hT2, hy2⟩ := p_mPassT ha hl hT (by omega)
    have l570 := m570.1
    have h99 := hT.2.1.1.2.2.1
    rw [fX10_whenOf_2]
    dsimp only
    rw [if_neg (show ¬ (60 : Int32) ≤ nI j from nI_ge (b := 60) (by omega) (by decide))]
    simp (disch := omega) only [↓reduceIte, i_0, i_1, i_2, i_3, i_4, i_5, i_6, i_7, i_8, i_9, i_10, i_11, i_12, i_13, i_14, i_15, i_16, i_17, i_18, i_19, i_20, i_21, i_22, i_23, i_24, i_25, i_26, i_27, i_28, i_29, i_30, i_31, i_32, i_33, i_34, i_35, i_36, i_37, i_38, i_39, i_40, i_41, i_42, i_43, i_44, i_45, i_46, i_47, i_48, i_49, i_50, i_51, i_52, i_53, i_54, i_55, i_56, i_57, i_58, i_59, i_60, i_61, i_62, i_63, i_91, i_93, i_97, i_98, i_99, i_100, i_101, i_102, i_103, i_104, i_122, i_150, i_200, i_255, i_305, i_600, i_729, i_999, i_1365, i_12345, i_32767, i_65536, i_100000, i_1000000, i_1103515245, zlet_eq, zbind_some, zbindv_some, ofN_nI, nI_add, pk_mul, nI_sub', nI_addg, gg_sub, nI_cl', zix_nI, rf_116_9, rf_116_10, rf_116_11, rf_116_12, rf_116_13, rf_116_14, rf_116_15, rf_116_16, rf_116_17, rf_116_18, rf_116_19, rf_116_20, rf_116_21, rf_116_22, rf_116_23, rf_116_24, rf_116_28, rf_116_29, rf_116_30, rf_116_31, rf_116_32, rf_116_33, rf_116_34, rf_116_35, rf_116_36, rf_116_37, rf_116_38, rf_116_39, rf_116_43, rf_116_49, rf_116_51, rf_116_54, rf_116_55, rf_116_56, rf_116_59, ln_127, ln_144, ln_161, ln_174, ln_187, ln_200, ln_213, ln_374, ln_535, ln_548, ln_561, ln_572, ln_577, ln_582, ln_117, ln_118, ln_119, ln_120, ln_121, ln_122, ln_123, ln_124, ln_125, ln_126, ln_565, ln_566, ln_567, ln_568, ln_569, ln_570, ln_571, ln_576, ln_600, ln_601, ln_602, ln_603, l570, hu, h50, h99]
    rw [sWhen]
    by_cases e : oI (sPass α l ρ).1 = x
    · rw [if_pos e, if_pos e]
      exact ⟨u, rfl, hT2.2.2.2.2⟩
    · rw [if_neg e, if_neg e]
      exact ih n (j + 1) (sPass α l ρ).2 u (by omega) (by omega) hT2 (by omega)
theorem p_mWhen {v : zV} {α : sA} {l : sL} {ρ : sR} (h : MQ' v α l ρ) (ho : OKs α l ρ) (x : Int32) : ∃ w, (zbindv (fX10_copies 567 570 v) fun v_3 => zbind (fX10_whenOf 116 570 x v_3) fun r_5 v_4 => some (r_5, v_4)) = some (sWhen α l x 60 ρ, w) ∧ frM v w := by
  obtain ⟨w, hw, hT⟩ := p_mTrial h ho
  obtain ⟨u, hu, huf⟩ := p_mWhenL ho.1 ho.2.1 x 60 zFU 0 ρ w rfl (by unfold zFU; omega) hT (by have := ho.2.2.2; omega)
  refine ⟨u, ?_, huf⟩
  rw [hw, zbindv_some]
  unfold fX10_whenOf
  rw [show fX10_whenOf_2 zFU 116 570 x 0 w = some (sWhen α l x 60 ρ, u) from hu]
  rfl
end
