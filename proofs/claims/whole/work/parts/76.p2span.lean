/-! FATES, SPAN -/
section
def sFy (α : sA) (l : sL) (q : Nat) (s : Int32) (ρ : sR) : sR := (sSettle α l (sFates α q s (sTell α ρ))).2
def sFg (α : sA) (l : sL) (q : Nat) : Nat → Int32 → sR → sR
  | 0, _, ρ => ρ
  | n + 1, s, ρ => sFg α l q n (sDr s (sCh (sTell α ρ)).length) (sFy α l q s ρ)
theorem sFy_ok {α : sA} {l : sL} (ha : okA α) {ρ : sR} (h : okR α ρ) (hy : sSc ρ 0 < 900) (q : Nat) (s : Int32) : okR α (sFates α q s (sTell α ρ)) ∧ okR α (sFy α l q s ρ) ∧ sSc (sFy α l q s ρ) 0 = sSc ρ 0 + 1 := by
  obtain ⟨h1, h2⟩ := sTell_ok ha h
  obtain ⟨h3, h4⟩ := sFates_ok h1 q s
  have := okR_after ha (ρ := sFates α q s (sTell α ρ)) h3 (by rw [h4, h2]; exact hy) (o := sChoose α (sFates α q s (sTell α ρ)) (sScore α l (sFates α q s (sTell α ρ)))) (fun m hm => sChoose_ok hm)
  rw [h4, h2] at this
  exact ⟨h3, this⟩
theorem p_playL {v0 : zV} {α : sA} {l : sL} (ha : okA α) (hl : okL l) {q : Nat} (hq : q ≤ 16) (y : Nat) (hy40 : y ≤ 40) : ∀ (d n j : Nat) (s : Int32) (ρ : sR) (w : zV), j + d = y → d < n → TR v0 α l w ρ → sSc ρ 0 + d < 900 → ∃ u, fX4_playFate_17 n 52 (nI q) (nI y) s (nI j) w = some u ∧ TR v0 α l u (sFg α l q d s ρ) ∧ u 52 = w 52 := by
  intro d
  induction d with
  | zero =>
    intro n j s ρ w hj hn hT hyr
    obtain ⟨n, rfl⟩ : ∃ k, n = k + 1 := ⟨n - 1, by omega⟩
    obtain rfl : j = y := by omega
    refine ⟨w, ?_, hT, rfl⟩
    rw [fX4_playFate_17]
    dsimp only
    rw [if_pos (Int32.le_refl _)]
  | succ d ih =>
    intro n j s ρ w hj hn hT hyr
    obtain ⟨n, rfl⟩ : ∃ k, n = k + 1 := ⟨n - 1, by omega⟩
    obtain ⟨hE, hR, hoR, hf⟩ := hT
    obtain ⟨u1, hu1, hr1, hon1⟩ := p_tell r53 ha (ok_13 ha) hE.1 hR hoR
    have f1 : frC w u1 := frC_R (by decide) (by decide) hon1
    have ho1 := (sTell_ok ha hoR).1
    obtain ⟨u2, hu2, hr2, hon2⟩ := p_draw ha (ok_13 ha) hq s ho1 (CE_f hE f1).1 hr1
    have f2 : frC w u2 := frC_tr f1 (frC_F hon2)
    obtain ⟨g1, g2, g3⟩ := sFy_ok (l := l) ha hoR (by omega) q s
    obtain ⟨u3, hu3, hr3, hon3⟩ := p_settle r53 ha hl (CE_f hE f2) hr2 g1
    have f3 : frC w u3 := frC_tr f2 (frC_C (i := 53) (by decide) (by decide) hon3)
    obtain ⟨x, hx, hxT, hx52⟩ := ih n (j + 1) (sDr s (sCh (sTell α ρ)).length) (sFy α l q s ρ) u3 (by omega) (by omega) ⟨CE_f hE f3, hr3, g2, frC_tr hf f3⟩ (by omega)
    refine ⟨x, ?_, hxT, by rw [hx52, hon3 52 (by decide) (by decide) (by decide) (by decide), hon2 52 (by decide) (by decide), hon1 52 (by decide)]⟩
    rw [fX4_playFate_17]
    dsimp only
    rw [if_neg (nI_ge (by omega) (by omega)), rf_52_1, rf_52_3, hu1, zbindv_some, hu2, zbind_some, hu3, zbind_some, nI_1]
    exact hx
theorem p_play {v : zV} {α : sA} {l : sL} {ρ : sR} (h : CQ v α l ρ) (ho : OKs α l ρ) {q y : Nat} (hq : q ≤ 16) (hy : y ≤ 40) (s : Int32) : ∃ w, fX4_playFate 52 s (nI q) (nI y) v = some w ∧ TR v α l w (sFg α l q y s ρ) ∧ w 52 = v 52 := by
  have hoC := okW_C ho.1 (ok_13 ho.1) ho.2.2.1
  obtain ⟨w, hw, hr, hon⟩ := p_rowCopy (i := 53) (j := 37) r53.1 r37.1 (by decide) h.2 hoC.1
  have hf : frC v w := frC_R (by decide) (by decide) hon
  obtain ⟨u, hu, huT, hu52⟩ := p_playL (v0 := v) ho.1 ho.2.1 hq y hy y zFU 0 s ρ w (Nat.zero_add _) (by unfold zFU; omega) ⟨CE_f h.1 hf, hr, ho.2.2.1, hf⟩ (by have := ho.2.2.2; omega)
  refine ⟨u, ?_, huT, by rw [hu52, hon 52 (by decide)]⟩
  unfold fX4_playFate
  rw [rf_52_3, rf_52_2, hw, zbindv_some]
  exact hu
def sFateA (ρ0 ρ : sR) (what : Nat) : Int32 := if what = 0 then nI (sCh ρ).length else if what = 1 then nI (sSc ρ 1) - nI (sSc ρ0 1) else if what = 2 then nI (sSc ρ 4) - nI (sSc ρ0 4) else oI (sLastO ρ)
theorem p_fates {v : zV} {α : sA} {l : sL} {ρ : sR} (h : CQ v α l ρ) (ho : OKs α l ρ) {q y what : Nat} (hq : q ≤ 16) (hy : y ≤ 40) (hw3 : what ≤ 3) (s : Int32) : ∃ w, fX4_fateOf 52 s (nI q) (nI y) (nI what) v = some (sFateA ρ (sFg α l q y s ρ) what, w) ∧ frC v w := by
  obtain ⟨w, hw, ⟨hE, hR, hoR, hf⟩, -⟩ := p_play h ho hq hy s
  have hR0 := (CQ_f h hf).2
  refine ⟨w, ?_, hf⟩
  unfold fX4_fateOf sFateA
  rw [hw, zbindv_some, rf_52_3, rf_52_2, p_last r53.1 hR (okW_C ho.1 (ok_13 ho.1) hoR), hR.1.2.1, hR.1.2.2.1, hR.1.2.2.2.2.2.1, hR0.1.2.2.1, hR0.1.2.2.2.2.2.1]
  simp (disch := omega) only [zbind_some, i_0, i_1, i_2, nI_eq']
  split
  · rfl
  · split
    · rfl
    · split <;> rfl
/-! the reference -/
theorem sLots_0 (s : Int32) : ∀ (t : List Nat) (j : Nat), sLots s 0 t j = [] := by
  intro t
  induction t with
  | nil => intro j; rfl
  | cons m t ih =>
    intro j
    rw [sLots, if_neg (show ¬ sHit s 0 j = true by unfold sHit; simp), ih]
theorem sFates_0 (α : sA) (s : Int32) (ρ : sR) : sFates α 0 s ρ = ρ := by
  unfold sFates
  rw [sLots_0]
  rfl
def frM7 (v w : zV) : Prop := (∀ a, a ≠ 116 → a ≠ 565 → a ≠ 566 → (a < 570 ∨ 602 < a) → w a = v a) ∧ ∀ k, k ≠ 47 → k ≠ 45 → k ≠ 48 → k ≠ 50 → k ≠ 52 → k ≠ 53 → k ≠ 57 → k ≠ 58 → w 116 k = v 116 k
theorem frM7_of {v w : zV} (h : frM v w) : frM7 v w := ⟨h.1, fun k _ => h.2 k⟩
theorem frM7_tr {v w u : zV} (h1 : frM7 v w) (h2 : frM7 w u) : frM7 v u := ⟨fun a g1 g2 g3 g4 => (h2.1 a g1 g2 g3 g4).trans (h1.1 a g1 g2 g3 g4), fun k g0 g1 g2 g3 g4 g5 g6 g7 => (h2.2 k g0 g1 g2 g3 g4 g5 g6 g7).trans (h1.2 k g0 g1 g2 g3 g4 g5 g6 g7)⟩
theorem pME_7 {v w : zV} {α : sA} {l : sL} (ha : okA α) (hl : okL l) (h : pME v α l) (e : frM7 v w) : pME w α l := ⟨MA_fr h.1 ha (fun a g1 g2 => e.1 a (by omega) (by omega) (by omega) (by omega)), ML_fr h.2 hl (e.2 26 (by decide) (by decide) (by decide) (by decide) (by decide) (by decide) (by decide) (by decide)) (fun a g1 g2 => e.1 a (by omega) (by omega) (by omega) (by omega))⟩
/-- the reference's trial while lots are drawn -/
def pTF (v0 : zV) (α : sA) (l : sL) (q : Nat) (s : Int32) (w : zV) (ρ : sR) : Prop := pME w α l ∧ MR 570 w ρ ∧ okR α ρ ∧ (w 116 44 = 0 ∧ w 116 46 = -1 ∧ w 116 47 = nI q ∧ (0 < q → w 116 48 = s)) ∧ frM7 v0 w
theorem p_mFateY {v0 w : zV} {α : sA} {l : sL} {ρ : sR} (ha : okA α) (hl : okL l) {q : Nat} (hq : q ≤ 16) {s : Int32} (h : pTF v0 α l q s w ρ) (hy : sSc ρ 0 < 900) : ∃ u, fX10_goes 116 570 w = some u ∧ pTF v0 α l q (sDr s (sCh (sTell α ρ)).length) u (sFy α l q s ρ) := by
  obtain ⟨h1, h2, h3, ⟨h44, h46, h47, h48⟩, h5⟩ := h
  obtain ⟨g1, g2, g3⟩ := sFy_ok (l := l) ha h3 hy q s
  rcases Nat.eq_zero_or_pos q with h0 | h0
  · subst h0
    obtain ⟨u, hu, hr, h50, hon⟩ := p_mGoes ha hl h1 (HP_0 h44) (mo := none) h46 (by rw [h47]; rfl) m570 h2 h3
    rw [sPassM_0] at hr
    have hf := frM_M (r := 570) (by decide) (by decide) hon
    have e : sFy α l 0 s ρ = (sPass α l ρ).2 := by
      unfold sFy
      rw [sFates_0]
      rfl
    refine ⟨u, hu, pME_f ha hl h1 hf, by rw [e]; exact hr, g2, ⟨?_, ?_, ?_, fun q => absurd q (by decide)⟩, frM7_tr h5 (frM7_of hf)⟩
    · rw [hon.2 44 (by decide) (by decide)]; exact h44
    · rw [hon.2 46 (by decide) (by decide)]; exact h46
    · rw [hon.2 47 (by decide) (by decide)]; exact h47
  · obtain ⟨u1, hu1, hr1, ho1, hon1⟩ := p_mDeaths ha m570 (ok_13 ha) h1.1 h2 h3 (mo := none) h46
    have f1 : onlyM 570 w u1 := ⟨fun a e1 _ _ _ _ => hon1 a e1, fun k _ _ => by rw [hon1 116 (by decide)]⟩
    have hE1 := ME_M m570 ha hl h1 f1
    obtain ⟨u2, hu2, hr2, h48b, f2⟩ := p_mFates ha m570 (ok_13 ha) hE1.1 hr1 ho1 hq (by rw [hon1 116 (by decide)]; exact h47) s (by rw [hon1 116 (by decide)]; exact h48 h0)
    have f12 := onlyM_tr f1 f2
    have hE2 := ME_M m570 ha hl h1 f12
    obtain ⟨u3, hu3, hr3, h50, f3⟩ := p_mGo17 ha hl hE2 (HP_0 (by rw [f12.2 44 (by decide) (by decide)]; exact h44)) m570 hr2 g1
    rw [sHp_0] at hr3
    have f123 := onlyM_tr f12 f3.1
    have hf := frM_M (r := 570) (by decide) (by decide) f123
    refine ⟨u3, ?_, pME_f ha hl h1 hf, hr3, g2, ⟨?_, ?_, ?_, fun _ => ?_⟩, frM7_tr h5 (frM7_of hf)⟩
    · unfold fX10_goes
      rw [hu1, zbindv_some, hon1 116 (by decide), h47, if_neg (nI_nle h0 (by omega)), hu2, zbindv_some]
      exact hu3
    · rw [f123.2 44 (by decide) (by decide)]; exact h44
    · rw [f123.2 46 (by decide) (by decide)]; exact h46
    · rw [f123.2 47 (by decide) (by decide)]; exact h47
    · rw [f3.2]; exact h48b
theorem p_mFatesL {v0 : zV} {α : sA} {l : sL} (ha : okA α) (hl : okL l) {q : Nat} (hq : q ≤ 16) (y : Nat) (hy40 : y ≤ 40) (h047 : v0 116 47 = 0) : ∀ (d n j : Nat) (s : Int32) (ρ : sR) (w : zV), j + d = y → d < n → pTF v0 α l q s w ρ → sSc ρ 0 + d < 900 → ∃ u, fX10_fatesBy_24 n 116 (nI y) (nI j) w = some u ∧ pTM v0 α l u (sFg α l q d s ρ) := by
  intro d
  induction d with
  | zero =>
    intro n j s ρ w hj hn hT hyr
    obtain ⟨n, rfl⟩ : ∃ k, n = k + 1 := ⟨n - 1, by omega⟩
    obtain rfl : j = y := by omega
    obtain ⟨h1, h2, h3, ⟨h44, h46, h47, h48⟩, h5⟩ := hT
    have e47 : ∀ k, k ≠ 47 → zup w 116 47 0 116 k = w 116 k := fun k g => p_up_n _ _ (Or.inr g)
    have f7 : frM7 w (zup w 116 47 0) := ⟨fun a g1 _ _ _ => p_up_a _ _ _ g1, fun k g _ _ _ _ _ _ _ => e47 k g⟩
    refine ⟨zup w 116 47 0, ?_, pME_7 ha hl h1 f7, MR_fr h2 (p_up_a _ _ _ (by decide)), h3, ⟨?_, ?_, p_up_s _ _ _ _⟩, (frM7_tr h5 f7).1, fun k g1 g2 g3 g4 g5 g6 g7 => ?_⟩
    · rw [fX10_fatesBy_24]
      dsimp only
      rw [if_pos (Int32.le_refl _)]
      rfl
    · rw [e47 44 (by decide)]; exact h44
    · rw [e47 46 (by decide)]; exact h46
    · by_cases e : k = 47
      · rw [e, p_up_s, h047]
      · exact (frM7_tr h5 f7).2 k e g1 g2 g3 g4 g5 g6 g7
  | succ d ih =>
    intro n j s ρ w hj hn hT hyr
    obtain ⟨n, rfl⟩ : ∃ k, n = k + 1 := ⟨n - 1, by omega⟩
    obtain ⟨u, hu, hT2⟩ := p_mFateY ha hl hq hT (by omega)
    have hy2 := (sFy_ok (l := l) ha hT.2.2.1 (by omega) q s).2.2
    obtain ⟨x, hx, hxT⟩ := ih n (j + 1) _ _ u (by omega) (by omega) hT2 (by omega)
    refine ⟨x, ?_, hxT⟩
    rw [fX10_fatesBy_24]
    dsimp only
    rw [if_neg (nI_ge (by omega) (by omega)), rf_116_38, hu, zbindv_some, nI_1]
    exact hx
theorem p_mPlay {v : zV} {α : sA} {l : sL} {ρ : sR} (h : MQ' v α l ρ) (ho : OKs α l ρ) {q y : Nat} (hq : q ≤ 16) (hy : y ≤ 40) (s : Int32) : ∃ w, fX10_fatesBy 116 s (nI q) (nI y) v = some w ∧ pTM v α l w (sFg α l q y s ρ) := by
  obtain ⟨w, hw, h1, h2, h3, ⟨h44, h46, h47⟩, h5⟩ := p_mTrial h ho
  have f7 : frM7 w (zup (zup w 116 48 s) 116 47 (nI q)) := ⟨fun a g1 _ _ _ => by rw [p_up_a _ _ _ g1, p_up_a _ _ _ g1], fun k g _ g48 _ _ _ _ _ => by rw [p_up_n _ _ (Or.inr g), p_up_n _ _ (Or.inr g48)]⟩
  obtain ⟨u, hu, huT⟩ := p_mFatesL (v0 := v) ho.1 ho.2.1 hq y hy h.2.2.2.2 y zFU 0 s ρ (zup (zup w 116 48 s) 116 47 (nI q)) (Nat.zero_add _) (by unfold zFU; omega) ⟨pME_7 ho.1 ho.2.1 h1 f7, MR_fr h2 (by rw [p_up_a _ _ _ (by decide), p_up_a _ _ _ (by decide)]), h3, ⟨by rw [p_up_n _ _ (Or.inr (by decide)), p_up_n _ _ (Or.inr (by decide))]; exact h44, by rw [p_up_n _ _ (Or.inr (by decide)), p_up_n _ _ (Or.inr (by decide))]; exact h46, p_up_s _ _ _ _, fun _ => by rw [p_up_n _ _ (Or.inr (by decide)), p_up_s]⟩, frM7_tr (frM7_of h5) f7⟩ (by have := ho.2.2.2; omega)
  refine ⟨u, ?_, huT⟩
  unfold fX10_fatesBy
  rw [rf_116_35, rf_116_38, hw, zbindv_some, zlet_eq, zlet_eq]
  exact hu
theorem p_mFatesQ {v : zV} {α : sA} {l : sL} {ρ : sR} (h : MQ' v α l ρ) (ho : OKs α l ρ) {q y what : Nat} (hq : q ≤ 16) (hy : y ≤ 40) (hw3 : what ≤ 3) (s : Int32) : ∃ w, fX10_fates_41 116 s (nI q) (nI y) (nI what) 116 0 v = (zbind (fX10_bad 116 0 1 1 v) fun r_2 v_1 => if r_2 = 0 then some (sFateA ρ (sFg α l q y s ρ) what, w) else some (0, v_1)) ∧ (v 116 0 = 0 → frM v w) := by
  by_cases h0 : v 116 0 = 0
  · obtain ⟨w, hw, h1, h2, h3, h4, hf⟩ := p_mPlay h ho hq hy s
    have hR0 := (MQ'_f ho.1 ho.2.1 h hf).2.1
    refine ⟨w, ?_, fun _ => hf⟩
    have hbad : fX10_bad 116 0 1 1 v = some (0, v) := by
      unfold fX10_bad
      rw [if_pos rfl, if_pos h0]
    unfold fX10_fates_41 sFateA
    rw [hbad, zbind_some, zbind_some, if_pos rfl, if_pos rfl, hw, zbindv_some]
    have a1 := h2.1.1
    have a2 := h2.1.2.2.2.1
    have a3 := h2.1.2.2.2.2.2.2
    have b2 := hR0.1.2.2.2.1
    have b3 := hR0.1.2.2.2.2.2.2
    have hla := p_mLast m570 h2 (okW_C ho.1 (ok_13 ho.1) h3)
    simp (disch := omega) only [↓reduceIte, i_0, i_1, i_2, i_3, i_4, i_5, i_6, i_7, i_8, i_9, i_10, i_11, i_12, i_13, i_14, i_15, i_16, i_17, i_18, i_19, i_20, i_21, i_22, i_23, i_24, i_25, i_26, i_27, i_28, i_29, i_30, i_31, i_32, i_33, i_34, i_35, i_36, i_37, i_38, i_39, i_40, i_41, i_42, i_43, i_44, i_45, i_46, i_47, i_48, i_49, i_50, i_51, i_52, i_53, i_54, i_55, i_56, i_57, i_58, i_59, i_60, i_61, i_62, i_63, i_91, i_93, i_97, i_98, i_99, i_100, i_101, i_102, i_103, i_104, i_122, i_150, i_200, i_255, i_305, i_600, i_729, i_999, i_1365, i_12345, i_32767, i_65536, i_100000, i_1000000, i_1103515245, zlet_eq, zbind_some, zbindv_some, ofN_nI, nI_add, pk_mul, nI_sub', nI_addg, gg_sub, nI_cl', zix_nI, rf_116_9, rf_116_10, rf_116_11, rf_116_12, rf_116_13, rf_116_14, rf_116_15, rf_116_16, rf_116_17, rf_116_18, rf_116_19, rf_116_20, rf_116_21, rf_116_22, rf_116_23, rf_116_24, rf_116_28, rf_116_29, rf_116_30, rf_116_31, rf_116_32, rf_116_33, rf_116_34, rf_116_35, rf_116_36, rf_116_37, rf_116_38, rf_116_39, rf_116_43, rf_116_49, rf_116_51, rf_116_54, rf_116_55, rf_116_56, rf_116_59, ln_127, ln_144, ln_161, ln_174, ln_187, ln_200, ln_213, ln_374, ln_535, ln_548, ln_561, ln_572, ln_577, ln_582, ln_117, ln_118, ln_119, ln_120, ln_121, ln_122, ln_123, ln_124, ln_125, ln_126, ln_565, ln_566, ln_567, ln_568, ln_569, ln_570, ln_571, ln_576, ln_600, ln_601, ln_602, ln_603, a1, a2, a3, b2, b3, hla, nI_eq']
    split
    · rfl
    · split
      · rfl
      · split <;> rfl
  · refine ⟨v, ?_, fun q => absurd q h0⟩
    have hbad : fX10_bad 116 0 1 1 v = some (1, v) := by
      unfold fX10_bad
      rw [if_pos rfl, if_neg h0]
    unfold fX10_fates_41
    rw [hbad, zbind_some, zbind_some, if_neg (by decide), if_neg (by decide)]
end
