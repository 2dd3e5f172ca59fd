/-! SPAN -/
section
theorem zmin_nI {a b : Nat} (ha : a < 2 ^ 31) (hb : b < 2 ^ 31) : zmin (nI a) (nI b) = nI (min a b) := by
  unfold zmin
  by_cases h : b < a
  · rw [if_pos (nI_lt h ha), Nat.min_eq_right (by omega)]
  · rw [if_neg (nI_nlt (by omega) hb), Nat.min_eq_left (by omega)]
abbrev sSp : Type := Nat × Nat × Nat
def sSpS (α : sA) (l : sL) (ρ : sR) (seed : Int32) (q y m k : Nat) (s : sSp) : sSp := (min s.1 (sCh (sFg α l q y (seed + nI k) ρ)).length, max s.2.1 (sCh (sFg α l q y (seed + nI k) ρ)).length, s.2.2 + if sSt (sFg α l q y (seed + nI k) ρ) m = 1 then 1 else 0)
def sSpan (α : sA) (l : sL) (ρ : sR) (seed : Int32) (many q y m : Nat) : sSp := zit (sSpS α l ρ seed q y m) many 0 (12, 0, 0)
def sSpO (s : sSp) (what : Nat) : Int32 := if what = 0 then nI s.1 else if what = 1 then nI s.2.1 else nI s.2.2
theorem sFg_ok {α : sA} {l : sL} (ha : okA α) (q : Nat) : ∀ (n : Nat) (s : Int32) (ρ : sR), okR α ρ → sSc ρ 0 + n < 900 → okR α (sFg α l q n s ρ) := by
  intro n
  induction n with
  | zero => intro s ρ h _; exact h
  | succ n ih =>
    intro s ρ h hy
    obtain ⟨-, g2, g3⟩ := sFy_ok (l := l) ha h (by omega) q s
    exact ih _ _ g2 (by omega)
theorem p_span {v : zV} {α : sA} {l : sL} {ρ : sR} (h : CQ v α l ρ) (ho : OKs α l ρ) {many q y m : Nat} (hmn : many ≤ 20) (hq : q ≤ 16) (hy : y ≤ 40) (hm : m < α 0 1) (seed : Int32) : ∃ w, fX4_tryFates 52 seed (nI many) (nI q) (nI y) (nI m) v = some w ∧ (w 52 10 = nI (sSpan α l ρ seed many q y m).1 ∧ w 52 11 = nI (sSpan α l ρ seed many q y m).2.1 ∧ w 52 12 = nI (sSpan α l ρ seed many q y m).2.2) ∧ frC v w := by
  have hM := ho.1.1.2.1
  have hC := ho.1.1.2.2.2.1
  have hyr := ho.2.2.2
  have hk : ∀ k : Nat, okR α (sFg α l q y (seed + nI k) ρ) := fun k => sFg_ok ho.1 q y _ ρ ho.2.2.1 (by omega)
  have hl12 : ∀ k : Nat, (sCh (sFg α l q y (seed + nI k) ρ)).length ≤ 12 := fun k => by have := (hk k).1; omega
  unfold fX4_tryFates
  simp only [zlet_eq]
  have f0 : frC v (zup (zup (zup v 52 10 12) 52 11 0) 52 12 0) := frC_tr (frC_tr (frC_up _ _ (by decide) (by decide)) (frC_up _ _ (by decide) (by decide))) (frC_up _ _ (by decide) (by decide))
  refine lpR (fun n j (_ : sSp) v => fX4_tryFates_19 n 52 seed (nI many) (nI q) (nI y) (nI m) (nI j) v) (sSpS α l ρ seed q y m) many (fun j s u => (u 52 10 = nI s.1 ∧ u 52 11 = nI s.2.1 ∧ u 52 12 = nI s.2.2) ∧ (s.1 ≤ 12 ∧ s.2.1 ≤ 12 ∧ s.2.2 ≤ j) ∧ frC v u) (fun s u => (u 52 10 = nI s.1 ∧ u 52 11 = nI s.2.1 ∧ u 52 12 = nI s.2.2) ∧ frC v u) (fun n1 s u hK => ?_) (fun n1 j s u hj hK => ?_) many zFU 0 (12, 0, 0) _ (Nat.zero_add _) (by unfold zFU; omega) ⟨⟨?_, ?_, ?_⟩, ⟨by decide, by decide, by decide⟩, f0⟩
  · refine ⟨u, ?_, hK.1, hK.2.2⟩
    show fX4_tryFates_19 (n1 + 1) 52 seed (nI many) (nI q) (nI y) (nI m) (nI many) u = some u
    rw [fX4_tryFates_19]
    dsimp only
    rw [if_pos (Int32.le_refl _)]
  · obtain ⟨⟨h10, h11, h12⟩, ⟨b1, b2, b3⟩, hf⟩ := hK
    obtain ⟨w, hw, hT, h52⟩ := p_play (CQ_f h hf) ho hq hy (seed + nI j)
    have hlen := hl12 j
    have hs4 := (hk j).2.2.2.1 m
    have e1 := hT.2.1.1.2.1
    have est := hT.2.1.2.2.1 m (by omega)
    have g10 : w 52 10 = nI s.1 := by rw [h52]; exact h10
    have g11 : w 52 11 = nI s.2.1 := by rw [h52]; exact h11
    have g12 : w 52 12 = nI s.2.2 := by rw [h52]; exact h12
    have fw := frC_tr hf hT.2.2.2
    show ∃ x, fX4_tryFates_19 (n1 + 1) 52 seed (nI many) (nI q) (nI y) (nI m) (nI j) u = fX4_tryFates_19 n1 52 seed (nI many) (nI q) (nI y) (nI m) (nI (j + 1)) x ∧ _
    rw [fX4_tryFates_19]
    dsimp only
    rw [if_neg (nI_ge hj (by omega)), hw, zbindv_some, rf_52_3, rf_53_9]
    simp only [zlet_eq]
    rw [g10, e1, zmin_nI (by omega) (by omega), p_up_n _ _ (Or.inr (show (11 : Nat) ≠ 10 by decide)), g11, p_up_a _ _ _ (show (53 : Nat) ≠ 52 by decide), e1, zmax_nI (by omega) (by omega), p_get (by rw [ln_55]; omega), zbind_some, p_up_a _ _ _ (show (55 : Nat) ≠ 52 by decide), p_up_a _ _ _ (show (55 : Nat) ≠ 52 by decide), est, p_up_n _ _ (Or.inr (show (12 : Nat) ≠ 11 by decide)), p_up_n _ _ (Or.inr (show (12 : Nat) ≠ 10 by decide)), g12]
    simp (disch := omega) only [i_1, nI_eq', nI_add]
    have f2 : frC v (zup (zup w 52 10 (nI (min s.1 (sCh (sFg α l q y (seed + nI j) ρ)).length))) 52 11 (nI (max s.2.1 (sCh (sFg α l q y (seed + nI j) ρ)).length))) := frC_tr fw (frC_tr (frC_up _ _ (by decide) (by decide)) (frC_up _ _ (by decide) (by decide)))
    unfold sSpS
    by_cases c : sSt (sFg α l q y (seed + nI j) ρ) m = 1
    · rw [if_pos c, if_pos c]
      refine ⟨_, rfl, ⟨?_, ?_, ?_⟩, ⟨?_, ?_, ?_⟩, frC_tr f2 (frC_up _ _ (by decide) (by decide))⟩
      · rw [p_up_n _ _ (Or.inr (by decide)), p_up_n _ _ (Or.inr (by decide)), p_up_s]
      · rw [p_up_n _ _ (Or.inr (by decide)), p_up_s]
      · rw [p_up_s]
      · show min s.1 _ ≤ 12
        omega
      · show max s.2.1 _ ≤ 12
        omega
      · show s.2.2 + 1 ≤ j + 1
        omega
    · rw [if_neg c, if_neg c]
      refine ⟨_, rfl, ⟨?_, ?_, ?_⟩, ⟨?_, ?_, ?_⟩, f2⟩
      · rw [p_up_n _ _ (Or.inr (by decide)), p_up_s]
      · rw [p_up_s]
      · rw [p_up_n _ _ (Or.inr (by decide)), p_up_n _ _ (Or.inr (by decide))]
        exact g12
      · show min s.1 _ ≤ 12
        omega
      · show max s.2.1 _ ≤ 12
        omega
      · show s.2.2 + 0 ≤ j + 1
        omega
  · rw [p_up_n _ _ (Or.inr (by decide)), p_up_n _ _ (Or.inr (by decide)), p_up_s]
    rfl
  · rw [p_up_n _ _ (Or.inr (by decide)), p_up_s]
    rfl
  · rw [p_up_s]
    rfl
theorem p_mSpan {v : zV} {α : sA} {l : sL} {ρ : sR} (h : MQ' v α l ρ) (ho : OKs α l ρ) {many q y m what : Nat} (hm1 : 1 ≤ many) (hmn : many ≤ 20) (hq : q ≤ 16) (hy : y ≤ 40) (hm : m < α 0 1) (hwh : what ≤ 2) (seed : Int32) : ∃ w, fX10_span_83 zFU 116 seed (nI many) (nI q) (nI y) (nI what) (nI m) (-1) 0 0 0 v = some (sSpO (sSpan α l ρ seed many q y m) what, w) ∧ frM v w := by
  have hM := ho.1.1.2.1
  have hC := ho.1.1.2.2.2.1
  have hyr := ho.2.2.2
  have hk : ∀ k : Nat, okR α (sFg α l q y (seed + nI k) ρ) := fun k => sFg_ok ho.1 q y _ ρ ho.2.2.1 (by omega)
  have hl12 : ∀ k : Nat, (sCh (sFg α l q y (seed + nI k) ρ)).length ≤ 12 := fun k => by have := (hk k).1; omega
  have := lpR (fun n j (s : sSp) v => fX10_span_83 n 116 seed (nI many) (nI q) (nI y) (nI what) (nI m) (if j = 0 then -1 else nI s.1) (nI s.2.1) (nI s.2.2) (nI j) v) (sSpS α l ρ seed q y m) many (fun j s u => (s.1 ≤ 12 ∧ s.2.1 ≤ 12 ∧ s.2.2 ≤ j ∧ (j = 0 → s.1 = 12)) ∧ frM v u) (fun s p => p.1 = sSpO s what ∧ frM v p.2) (fun n1 s u hK => ?_) (fun n1 j s u hj hK => ?_) many zFU 0 (12, 0, 0) v (Nat.zero_add _) (by unfold zFU; omega) ⟨⟨by decide, by decide, by decide, fun _ => rfl⟩, frM_rf v⟩
  · obtain ⟨⟨p1, p2⟩, h1, h2, h3⟩ := this
    subst h2
    exact ⟨p2, h1, h3⟩
  · refine ⟨(sSpO s what, u), ?_, rfl, hK.2⟩
    show fX10_span_83 (n1 + 1) 116 seed (nI many) (nI q) (nI y) (nI what) (nI m) (if many = 0 then -1 else nI s.1) (nI s.2.1) (nI s.2.2) (nI many) u = _
    rw [fX10_span_83]
    dsimp only
    rw [if_pos (Int32.le_refl _), if_neg (show ¬ many = 0 by omega)]
    unfold sSpO
    simp (disch := omega) only [i_0, i_1, nI_eq']
    split
    · rfl
    · split <;> rfl
  · obtain ⟨⟨b1, b2, b3, b4⟩, hf⟩ := hK
    obtain ⟨w, hw, hT⟩ := p_mPlay (MQ'_f ho.1 ho.2.1 h hf) ho hq hy (seed + nI j)
    have hlen := hl12 j
    have hs4 := (hk j).2.2.2.1 m
    have e1 := hT.2.1.1.1
    have est := hT.2.1.2.1 m (by omega)
    have fw := frM_tr hf hT.2.2.2.2
    have hbd : (sSpS α l ρ seed q y m j s).1 ≤ 12 ∧ (sSpS α l ρ seed q y m j s).2.1 ≤ 12 ∧ (sSpS α l ρ seed q y m j s).2.2 ≤ j + 1 ∧ (j + 1 = 0 → (sSpS α l ρ seed q y m j s).1 = 12) := by
      refine ⟨?_, ?_, ?_, fun q => by omega⟩
      · show min s.1 _ ≤ 12
        omega
      · show max s.2.1 _ ≤ 12
        omega
      · show s.2.2 + (if _ then 1 else 0) ≤ j + 1
        split <;> omega
    show ∃ x, fX10_span_83 (n1 + 1) 116 seed (nI many) (nI q) (nI y) (nI what) (nI m) (if j = 0 then -1 else nI s.1) (nI s.2.1) (nI s.2.2) (nI j) u = fX10_span_83 n1 116 seed (nI many) (nI q) (nI y) (nI what) (nI m) (if j + 1 = 0 then -1 else nI (sSpS α l ρ seed q y m j s).1) (nI (sSpS α l ρ seed q y m j s).2.1) (nI (sSpS α l ρ seed q y m j s).2.2) (nI (j + 1)) x ∧ _
    refine ⟨w, ?_, hbd, fw⟩
    rw [if_neg (show ¬ j + 1 = 0 by omega), fX10_span_83]
    dsimp only
    rw [if_neg (nI_ge hj (by omega)), hw, zbindv_some]
    unfold sSpS fX10_span_128
    by_cases c0 : j = 0
    · have b5 := b4 c0
      rw [if_pos c0, if_pos rfl]
      simp (disch := omega) only [↓reduceIte, i_0, i_1, i_2, i_3, i_4, i_5, i_6, i_7, i_8, i_9, i_10, i_11, i_12, i_13, i_14, i_15, i_16, i_17, i_18, i_19, i_20, i_21, i_22, i_23, i_24, i_25, i_26, i_27, i_28, i_29, i_30, i_31, i_32, i_33, i_34, i_35, i_36, i_37, i_38, i_39, i_40, i_41, i_42, i_43, i_44, i_45, i_46, i_47, i_48, i_49, i_50, i_51, i_52, i_53, i_54, i_55, i_56, i_57, i_58, i_59, i_60, i_61, i_62, i_63, i_91, i_93, i_97, i_98, i_99, i_100, i_101, i_102, i_103, i_104, i_122, i_150, i_200, i_255, i_305, i_600, i_729, i_999, i_1365, i_12345, i_32767, i_65536, i_100000, i_1000000, i_1103515245, zlet_eq, zbind_some, zbindv_some, ofN_nI, nI_add, pk_mul, nI_sub', nI_addg, gg_sub, nI_cl', zix_nI, rf_116_9, rf_116_10, rf_116_11, rf_116_12, rf_116_13, rf_116_14, rf_116_15, rf_116_16, rf_116_17, rf_116_18, rf_116_19, rf_116_20, rf_116_21, rf_116_22, rf_116_23, rf_116_24, rf_116_28, rf_116_29, rf_116_30, rf_116_31, rf_116_32, rf_116_33, rf_116_34, rf_116_35, rf_116_36, rf_116_37, rf_116_38, rf_116_39, rf_116_43, rf_116_49, rf_116_51, rf_116_54, rf_116_55, rf_116_56, rf_116_59, ln_127, ln_144, ln_161, ln_174, ln_187, ln_200, ln_213, ln_374, ln_535, ln_548, ln_561, ln_572, ln_577, ln_582, ln_117, ln_118, ln_119, ln_120, ln_121, ln_122, ln_123, ln_124, ln_125, ln_126, ln_565, ln_566, ln_567, ln_568, ln_569, ln_570, ln_571, ln_576, ln_600, ln_601, ln_602, ln_603, e1, est, Nat.zero_add, p_more, zmax_nI, nI_eq']
      rw [b5, Nat.min_eq_right hlen]
      split <;> rfl
    · rw [if_neg c0, if_neg (show ¬ nI s.1 = -1 from fun q => by rw [show (-1 : Int32) = -nI 1 from rfl, ng_eq (by omega) (by decide) (by decide)] at q; exact q)]
      have hmin : (if nI s.1 < nI (sCh (sFg α l q y (seed + nI j) ρ)).length then nI s.1 else nI (sCh (sFg α l q y (seed + nI j) ρ)).length) = nI (min s.1 (sCh (sFg α l q y (seed + nI j) ρ)).length) := by
        by_cases c : s.1 < (sCh (sFg α l q y (seed + nI j) ρ)).length
        · rw [if_pos (nI_lt c (by omega)), Nat.min_eq_left (by omega)]
        · rw [if_neg (nI_nlt (by omega) (by omega)), Nat.min_eq_right (by omega)]
      simp (disch := omega) only [↓reduceIte, i_0, i_1, i_2, i_3, i_4, i_5, i_6, i_7, i_8, i_9, i_10, i_11, i_12, i_13, i_14, i_15, i_16, i_17, i_18, i_19, i_20, i_21, i_22, i_23, i_24, i_25, i_26, i_27, i_28, i_29, i_30, i_31, i_32, i_33, i_34, i_35, i_36, i_37, i_38, i_39, i_40, i_41, i_42, i_43, i_44, i_45, i_46, i_47, i_48, i_49, i_50, i_51, i_52, i_53, i_54, i_55, i_56, i_57, i_58, i_59, i_60, i_61, i_62, i_63, i_91, i_93, i_97, i_98, i_99, i_100, i_101, i_102, i_103, i_104, i_122, i_150, i_200, i_255, i_305, i_600, i_729, i_999, i_1365, i_12345, i_32767, i_65536, i_100000, i_1000000, i_1103515245, zlet_eq, zbind_some, zbindv_some, ofN_nI, nI_add, pk_mul, nI_sub', nI_addg, gg_sub, nI_cl', zix_nI, rf_116_9, rf_116_10, rf_116_11, rf_116_12, rf_116_13, rf_116_14, rf_116_15, rf_116_16, rf_116_17, rf_116_18, rf_116_19, rf_116_20, rf_116_21, rf_116_22, rf_116_23, rf_116_24, rf_116_28, rf_116_29, rf_116_30, rf_116_31, rf_116_32, rf_116_33, rf_116_34, rf_116_35, rf_116_36, rf_116_37, rf_116_38, rf_116_39, rf_116_43, rf_116_49, rf_116_51, rf_116_54, rf_116_55, rf_116_56, rf_116_59, ln_127, ln_144, ln_161, ln_174, ln_187, ln_200, ln_213, ln_374, ln_535, ln_548, ln_561, ln_572, ln_577, ln_582, ln_117, ln_118, ln_119, ln_120, ln_121, ln_122, ln_123, ln_124, ln_125, ln_126, ln_565, ln_566, ln_567, ln_568, ln_569, ln_570, ln_571, ln_576, ln_600, ln_601, ln_602, ln_603, e1, est, Nat.zero_add, p_more, p_less, hmin, zmax_nI, nI_eq']
      split <;> rfl
end
