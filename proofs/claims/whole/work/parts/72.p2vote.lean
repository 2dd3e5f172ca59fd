/-! VOTE, SKIP, FLIP, QUORUM -/
section
theorem zmax_nI {a b : Nat} (ha : a < 2 ^ 31) (hb : b < 2 ^ 31) : zmax (nI a) (nI b) = nI (max a b) := by
  unfold zmax
  by_cases h : a < b
  · rw [if_pos (nI_lt h hb), Nat.max_eq_right (by omega)]
  · rw [if_neg (nI_nlt (by omega) ha), Nat.max_eq_left (by omega)]
theorem p_more (a b : Int32) (v : zV) : fX10_more a b v = some (zmax a b, v) := by
  unfold fX10_more zmax
  by_cases h : a ≤ b
  · rw [if_pos h]
    by_cases h2 : a < b
    · rw [if_pos h2]
    · rw [if_neg h2, Int32.le_antisymm h (Int32.not_lt.mp h2)]
  · rw [if_neg h, if_neg (fun q => h (Int32.le_of_lt q))]
theorem p_less (a b : Int32) (v : zV) : fX10_less a b v = some (if a < b then a else b, v) := by
  unfold fX10_less
  by_cases h : b ≤ a
  · rw [if_pos h, if_neg (Int32.not_lt.mpr h)]
  · rw [if_neg h, if_pos (Int32.not_le.mp h)]
/-! a tally -/
def sLdS (t : Nat → Nat) (s : Nat) (e : Option Nat × Nat) : Option Nat × Nat := if t s ≤ e.2 then e else (some s, t s)
def sLd (t : Nat → Nat) : Option Nat := (zit (sLdS t) 3 0 (none, 0)).1
theorem p_leading {v : zV} {t : Nat → Nat} (ht : ∀ s, s < 3 → v 97 s = nI (t s)) (h13 : ∀ s, t s ≤ 13) : fX3_leadingSide 96 v = some (oI (sLd t), v) := by
  unfold fX3_leadingSide
  refine lpI (fun n j (e : Option Nat × Nat) => fX3_leadingSide_6 n 96 (oI e.1) (nI e.2) (nI j) v) (sLdS t) 3 (fun e => some (oI e.1, v)) (fun _ e => e.2 ≤ 13) (fun n e _ => ?_) (fun n j e hj he => ⟨?_, ?_⟩) 3 zFU 0 (none, 0) rfl (by unfold zFU; omega) (by decide)
  · show fX3_leadingSide_6 (n + 1) 96 (oI e.1) (nI e.2) (nI 3) v = _
    rw [fX3_leadingSide_6]
    dsimp only
    rw [rf_96_2, ln_97, if_pos (by decide)]
  · show fX3_leadingSide_6 (n + 1) 96 (oI e.1) (nI e.2) (nI j) v = fX3_leadingSide_6 n 96 (oI (sLdS t j e).1) (nI (sLdS t j e).2) (nI (j + 1)) v
    have h1 := ht j hj
    have h2 := h13 j
    rw [fX3_leadingSide_6]
    dsimp only
    simp (disch := omega) only [↓reduceIte, i_0, i_1, i_2, i_3, i_4, i_5, i_6, i_7, i_8, i_9, i_10, i_11, i_12, i_13, i_14, i_15, i_16, i_17, i_18, i_19, i_20, i_21, i_22, i_23, i_24, i_25, i_26, i_27, i_28, i_29, i_30, i_31, i_32, i_33, i_34, i_35, i_36, i_37, i_38, i_39, i_40, i_41, i_42, i_43, i_44, i_45, i_46, i_47, i_48, i_49, i_50, i_51, i_52, i_53, i_54, i_55, i_56, i_57, i_58, i_59, i_60, i_61, i_62, i_63, i_91, i_93, i_97, i_98, i_99, i_100, i_101, i_102, i_103, i_104, i_122, i_150, i_200, i_255, i_305, i_600, i_729, i_999, i_1365, i_12345, i_32767, i_65536, i_100000, i_1000000, i_1103515245, zlet_eq, zbind_some, zbindv_some, ofN_nI, nI_add, pk_mul, nI_sub', nI_addg, gg_sub, nI_cl', zix_nI, rf_96_0, rf_96_1, rf_96_2, ln_97, h1, nI_le']
    rw [if_neg (by omega)]
    unfold sLdS
    by_cases c : t j ≤ e.2
    · rw [if_pos c, if_pos c]
    · rw [if_neg c, if_neg c]
      rfl
  · unfold sLdS
    split
    · exact he
    · exact h13 j
theorem p_mLeading {v : zV} {t : Nat → Nat} (ht : ∀ s, s < 3 → v 602 s = nI (t s)) (h13 : ∀ s, t s ≤ 13) : fX10_voteOf_83 zFU 116 (-1) 0 v = some (oI (sLd t), v) := by
  refine lpI (fun n j (e : Option Nat × Nat) => fX10_voteOf_83 n 116 (oI e.1) (nI j) v) (sLdS t) 3 (fun e => some (oI e.1, v)) (fun _ e => match e.1 with
    | none => e.2 = 0
    | some x => x < 3 ∧ e.2 = t x ∧ 0 < t x) (fun n e _ => ?_) (fun n j e hj he => ⟨?_, ?_⟩) 3 zFU 0 (none, 0) rfl (by unfold zFU; omega) rfl
  · show fX10_voteOf_83 (n + 1) 116 (oI e.1) (nI 3) v = _
    rw [fX10_voteOf_83]
    dsimp only
    rw [if_pos (by decide)]
  · show fX10_voteOf_83 (n + 1) 116 (oI e.1) (nI j) v = fX10_voteOf_83 n 116 (oI (sLdS t j e).1) (nI (j + 1)) v
    have h1 := ht j hj
    have h2 := h13 j
    rw [fX10_voteOf_83]
    dsimp only
    simp (disch := omega) only [↓reduceIte, i_0, i_1, i_2, i_3, i_4, i_5, i_6, i_7, i_8, i_9, i_10, i_11, i_12, i_13, i_14, i_15, i_16, i_17, i_18, i_19, i_20, i_21, i_22, i_23, i_24, i_25, i_26, i_27, i_28, i_29, i_30, i_31, i_32, i_33, i_34, i_35, i_36, i_37, i_38, i_39, i_40, i_41, i_42, i_43, i_44, i_45, i_46, i_47, i_48, i_49, i_50, i_51, i_52, i_53, i_54, i_55, i_56, i_57, i_58, i_59, i_60, i_61, i_62, i_63, i_91, i_93, i_97, i_98, i_99, i_100, i_101, i_102, i_103, i_104, i_122, i_150, i_200, i_255, i_305, i_600, i_729, i_999, i_1365, i_12345, i_32767, i_65536, i_100000, i_1000000, i_1103515245, zlet_eq, zbind_some, zbindv_some, ofN_nI, nI_add, pk_mul, nI_sub', nI_addg, gg_sub, nI_cl', zix_nI, rf_116_9, rf_116_10, rf_116_11, rf_116_12, rf_116_13, rf_116_14, rf_116_15, rf_116_16, rf_116_17, rf_116_18, rf_116_19, rf_116_20, rf_116_21, rf_116_22, rf_116_23, rf_116_24, rf_116_28, rf_116_29, rf_116_30, rf_116_31, rf_116_32, rf_116_33, rf_116_34, rf_116_35, rf_116_36, rf_116_37, rf_116_38, rf_116_39, rf_116_43, rf_116_49, rf_116_51, rf_116_54, rf_116_55, rf_116_56, rf_116_59, ln_127, ln_144, ln_161, ln_174, ln_187, ln_200, ln_213, ln_374, ln_535, ln_548, ln_561, ln_572, ln_577, ln_582, ln_117, ln_118, ln_119, ln_120, ln_121, ln_122, ln_123, ln_124, ln_125, ln_126, ln_565, ln_566, ln_567, ln_568, ln_569, ln_570, ln_571, ln_576, ln_600, ln_601, ln_602, ln_603, h1, nI_le']
    rw [if_neg (by omega)]
    unfold sLdS
    obtain ⟨e1, e2⟩ := e
    cases e1 with
    | none =>
      have he0 : e2 = 0 := he
      subst he0
      dsimp only
      by_cases c : t j ≤ 0
      · rw [if_pos c, if_pos c]
      · rw [if_neg c, if_neg c, oI_none, if_pos rfl]
        rfl
    | some x =>
      obtain ⟨hx, hx2, hx3⟩ := he
      have hx2' : e2 = t x := hx2
      subst hx2'
      have h3 := ht x hx
      have h4 := h13 x
      dsimp only
      rw [oI_some, if_neg (show ¬ nI x = -nI 1 from fun q => by rw [ng_eq (by omega) (by decide) (by decide)] at q; exact q)]
      simp (disch := omega) only [↓reduceIte, i_0, i_1, i_2, i_3, i_4, i_5, i_6, i_7, i_8, i_9, i_10, i_11, i_12, i_13, i_14, i_15, i_16, i_17, i_18, i_19, i_20, i_21, i_22, i_23, i_24, i_25, i_26, i_27, i_28, i_29, i_30, i_31, i_32, i_33, i_34, i_35, i_36, i_37, i_38, i_39, i_40, i_41, i_42, i_43, i_44, i_45, i_46, i_47, i_48, i_49, i_50, i_51, i_52, i_53, i_54, i_55, i_56, i_57, i_58, i_59, i_60, i_61, i_62, i_63, i_91, i_93, i_97, i_98, i_99, i_100, i_101, i_102, i_103, i_104, i_122, i_150, i_200, i_255, i_305, i_600, i_729, i_999, i_1365, i_12345, i_32767, i_65536, i_100000, i_1000000, i_1103515245, zlet_eq, zbind_some, zbindv_some, ofN_nI, nI_add, pk_mul, nI_sub', nI_addg, gg_sub, nI_cl', zix_nI, rf_116_9, rf_116_10, rf_116_11, rf_116_12, rf_116_13, rf_116_14, rf_116_15, rf_116_16, rf_116_17, rf_116_18, rf_116_19, rf_116_20, rf_116_21, rf_116_22, rf_116_23, rf_116_24, rf_116_28, rf_116_29, rf_116_30, rf_116_31, rf_116_32, rf_116_33, rf_116_34, rf_116_35, rf_116_36, rf_116_37, rf_116_38, rf_116_39, rf_116_43, rf_116_49, rf_116_51, rf_116_54, rf_116_55, rf_116_56, rf_116_59, ln_127, ln_144, ln_161, ln_174, ln_187, ln_200, ln_213, ln_374, ln_535, ln_548, ln_561, ln_572, ln_577, ln_582, ln_117, ln_118, ln_119, ln_120, ln_121, ln_122, ln_123, ln_124, ln_125, ln_126, ln_565, ln_566, ln_567, ln_568, ln_569, ln_570, ln_571, ln_576, ln_600, ln_601, ln_602, ln_603, h3, nI_le']
      by_cases c : t j ≤ t x
      · rw [if_pos c]
        by_cases c0 : t j ≤ 0
        · rw [if_pos c0, if_pos c]
          rfl
        · rw [if_neg c0, if_pos c]
          rfl
      · rw [if_neg (by omega), if_neg c, if_neg c]
        rfl
  · by_cases c : t j ≤ e.2
    · rw [show sLdS t j e = e from if_pos c]
      exact he
    · rw [show sLdS t j e = (some j, t j) from if_neg c]
      show j < 3 ∧ t j = t j ∧ 0 < t j
      exact ⟨hj, rfl, by omega⟩
/-- whom the chairs' men are for, of the chairs ahead of n that leave r by k -/
def sVp (α : sA) (ρ : sR) (q k r s c : Nat) : Bool := decide (c % k = r) && decide (α (10 + (sCh ρ).getD c 0) q = s)
def sVt (α : sA) (ρ : sR) (q k r n s : Nat) : Nat := zcnt (sVp α ρ q k r s) n
def sVote (α : sA) (ρ : sR) (q k r n : Nat) : Option Nat := sLd (sVt α ρ q k r n)
theorem p_clear (v : zV) : ∃ w, fX3_clearTally 96 v = some w ∧ (∀ s, s < 3 → w 97 s = nI 0) ∧ ∀ a, a ≠ 97 → w a = v a := by
  unfold fX3_clearTally
  refine lpR (σ := Unit) (fun n j _ v => fX3_clearTally_2 n 96 (nI j) v) (fun _ x => x) 3 (fun j _ w => (∀ s, s < j → w 97 s = nI 0) ∧ ∀ a, a ≠ 97 → w a = v a) (fun _ w => (∀ s, s < 3 → w 97 s = nI 0) ∧ ∀ a, a ≠ 97 → w a = v a) (fun n1 _ w hK => ?_) (fun n1 j _ w hj hK => ?_) 3 zFU 0 () v rfl (by unfold zFU; omega) ⟨fun s hs => absurd hs (Nat.not_lt_zero s), fun _ _ => rfl⟩
  · refine ⟨w, ?_, hK⟩
    show fX3_clearTally_2 (n1 + 1) 96 (nI 3) w = some w
    rw [fX3_clearTally_2]
    dsimp only
    rw [rf_96_2, ln_97, if_pos (by decide)]
  · show ∃ u, fX3_clearTally_2 (n1 + 1) 96 (nI j) w = fX3_clearTally_2 n1 96 (nI (j + 1)) u ∧ _
    rw [fX3_clearTally_2]
    dsimp only
    simp (disch := omega) only [↓reduceIte, i_0, i_1, i_2, i_3, i_4, i_5, i_6, i_7, i_8, i_9, i_10, i_11, i_12, i_13, i_14, i_15, i_16, i_17, i_18, i_19, i_20, i_21, i_22, i_23, i_24, i_25, i_26, i_27, i_28, i_29, i_30, i_31, i_32, i_33, i_34, i_35, i_36, i_37, i_38, i_39, i_40, i_41, i_42, i_43, i_44, i_45, i_46, i_47, i_48, i_49, i_50, i_51, i_52, i_53, i_54, i_55, i_56, i_57, i_58, i_59, i_60, i_61, i_62, i_63, i_91, i_93, i_97, i_98, i_99, i_100, i_101, i_102, i_103, i_104, i_122, i_150, i_200, i_255, i_305, i_600, i_729, i_999, i_1365, i_12345, i_32767, i_65536, i_100000, i_1000000, i_1103515245, zlet_eq, zbind_some, zbindv_some, ofN_nI, nI_add, pk_mul, nI_sub', nI_addg, gg_sub, nI_cl', zix_nI, rf_96_0, rf_96_1, rf_96_2, ln_97]
    rw [if_neg (nI_ge hj (by decide))]
    refine ⟨_, rfl, fun s hs => ?_, fun a ha => (p_up_a _ _ _ ha).trans (hK.2 a ha)⟩
    rw [p_up]
    split
    · rfl
    · rename_i hc
      exact hK.1 s (by
        rcases Nat.lt_or_ge s j with h | h
        · exact h
        · exact absurd ⟨rfl, by omega⟩ hc)
theorem eqC_fr {v w : zV} {α : sA} {l : sL} {ρ : sR} (h : CQ v α l ρ) (ho : OKs α l ρ) (e : ∀ a, a ≠ 97 → w a = v a) : eqC w α ρ := eqC_of (CQ_f h (fun a _ _ g => e a (by omega))) ho
theorem p_addT {v : zV} {α : sA} {ρ : sR} (h : eqC v α ρ) (hb : bdC α ρ) {q c : Nat} (hq : q < α 0 0) (hc : c < (sCh ρ).length) (t : Nat → Nat) (ht : ∀ s, s < 3 → v 97 s = nI (t s)) : ∃ w, fX3_addToTally 96 (nI c) (nI q) v = some w ∧ (∀ s, s < 3 → w 97 s = nI (t s + if α (10 + (sCh ρ).getD c 0) q = s then 1 else 0)) ∧ ∀ a, a ≠ 97 → w a = v a := by
  obtain ⟨hM, hl, hch, hal, hwt, hdf, hsm, hsd⟩ := h
  obtain ⟨⟨b1, b2, b3⟩, bch, bst, bdf, bbl⟩ := hb
  have hs3 := bbl _ q (bch c hc) hq
  refine ⟨zup v 97 (α (10 + (sCh ρ).getD c 0) q) (nI (t (α (10 + (sCh ρ).getD c 0) q) + 1)), ?_, fun s hs => ?_, fun a ha => p_up_a _ _ _ ha⟩
  · unfold fX3_addToTally fX3_sideOnChair
    have c1 := hch c hc
    have c2 := hsd _ q (bch c hc) hq
    have c3 := ht _ hs3
    simp (disch := omega) only [↓reduceIte, i_0, i_1, i_2, i_3, i_4, i_5, i_6, i_7, i_8, i_9, i_10, i_11, i_12, i_13, i_14, i_15, i_16, i_17, i_18, i_19, i_20, i_21, i_22, i_23, i_24, i_25, i_26, i_27, i_28, i_29, i_30, i_31, i_32, i_33, i_34, i_35, i_36, i_37, i_38, i_39, i_40, i_41, i_42, i_43, i_44, i_45, i_46, i_47, i_48, i_49, i_50, i_51, i_52, i_53, i_54, i_55, i_56, i_57, i_58, i_59, i_60, i_61, i_62, i_63, i_91, i_93, i_97, i_98, i_99, i_100, i_101, i_102, i_103, i_104, i_122, i_150, i_200, i_255, i_305, i_600, i_729, i_999, i_1365, i_12345, i_32767, i_65536, i_100000, i_1000000, i_1103515245, zlet_eq, zbind_some, zbindv_some, ofN_nI, nI_add, pk_mul, nI_sub', nI_addg, gg_sub, nI_cl', zix_nI, rf_96_0, rf_96_1, rf_96_2, ln_97, c1, c2]
    rw [p_get (by rw [ln_97]; exact hs3), zbind_some, p_set (by rw [ln_97]; exact hs3), zbindv_some, c3, nI_add]
  · rw [p_up]
    by_cases e : s = α (10 + (sCh ρ).getD c 0) q
    · rw [if_pos ⟨rfl, e⟩, if_pos e.symm, e]
    · rw [if_neg (fun q => e q.2), if_neg (fun q => e q.symm), ht s hs]
      rfl
theorem zcnt_gap {p : Nat → Bool} {j : Nat} : ∀ k, (∀ c, j < c → c < j + (k + 1) → p c = false) → zcnt p (j + (k + 1)) = zcnt p (j + 1) := by
  intro k
  induction k with
  | zero => intro _; rfl
  | succ k ih =>
    intro h
    rw [show j + (k + 1 + 1) = (j + (k + 1)) + 1 by omega, zcnt, ih (fun c h1 h2 => h c h1 (by omega)), h (j + (k + 1)) (by omega) (by omega)]
    rfl
theorem sVt_le (α : sA) (ρ : sR) (q k r n s : Nat) : sVt α ρ q k r n s ≤ n := zcnt_le _ _
theorem p_voteL {v0 : zV} {α : sA} {l : sL} {ρ : sR} (h0 : CQ v0 α l ρ) (ho : OKs α l ρ) {q k r : Nat} (hq : q < α 0 0) (hk : 1 ≤ k ∧ k ≤ 12) (hr : r < k) : ∀ (d n j : Nat) (v : zV), (sCh ρ).length - j ≤ d → j % k = r → j < (sCh ρ).length + 12 → d < n → (∀ a, a ≠ 97 → v a = v0 a) → (∀ s, s < 3 → v 97 s = nI (zcnt (fun c => decide (c < (sCh ρ).length) && sVp α ρ q k r s c) j)) → ∃ w, fX3_voteBy_12 n 96 (nI q) (nI k) (nI j) v = some (oI (sVote α ρ q k r (sCh ρ).length), w) ∧ (∀ s, s < 3 → w 97 s = nI (sVt α ρ q k r (sCh ρ).length s)) ∧ ∀ a, a ≠ 97 → w a = v0 a := by
  have hb := bdC_of ho
  have b3 := hb.1.2.2
  have hend : ∀ (j s : Nat), (sCh ρ).length ≤ j → zcnt (fun c => decide (c < (sCh ρ).length) && sVp α ρ q k r s c) j = sVt α ρ q k r (sCh ρ).length s := by
    intro j s hj
    obtain ⟨e, rfl⟩ : ∃ e, j = (sCh ρ).length + e := ⟨j - (sCh ρ).length, by omega⟩
    refine zcnt_ext (fun c hc => ?_) e (fun c hc => ?_)
    · simp only [decide_eq_true hc, Bool.true_and]
    · simp only [decide_eq_false (Nat.not_lt.mpr hc), Bool.false_and]
  intro d
  induction d with
  | zero =>
    intro n j v hd hj hj2 hn hv ht
    obtain ⟨n, rfl⟩ : ∃ k, n = k + 1 := ⟨n - 1, by omega⟩
    have hv1 := eqC_fr h0 ho hv
    have ht2 : ∀ s, s < 3 → v 97 s = nI (sVt α ρ q k r (sCh ρ).length s) := fun s hs => by rw [ht s hs, hend j s (by omega)]
    refine ⟨v, ?_, ht2, hv⟩
    rw [fX3_voteBy_12]
    dsimp only
    rw [rf_96_1, hv1.2.1, if_pos (nI_le (by omega) (by omega)), p_leading ht2 (fun s => by have := sVt_le α ρ q k r (sCh ρ).length s; omega)]
    rfl
  | succ d ih =>
    intro n j v hd hj hj2 hn hv ht
    obtain ⟨n, rfl⟩ : ∃ k, n = k + 1 := ⟨n - 1, by omega⟩
    have hv1 := eqC_fr h0 ho hv
    by_cases hjl : j < (sCh ρ).length
    · obtain ⟨w, hw, hwt, hwa⟩ := p_addT hv1 hb hq hjl _ ht
      have hk2 : j + k = j + ((k - 1) + 1) := by omega
      have hgap : ∀ s, zcnt (fun c => decide (c < (sCh ρ).length) && sVp α ρ q k r s c) (j + k) = zcnt (fun c => decide (c < (sCh ρ).length) && sVp α ρ q k r s c) j + if α (10 + (sCh ρ).getD j 0) q = s then 1 else 0 := by
        intro s
        rw [hk2, zcnt_gap (k - 1) (fun c h1 h2 => ?_), zcnt]
        · congr 1
          unfold sVp
          simp only [decide_eq_true hjl, decide_eq_true hj, Bool.true_and, decide_eq_true_eq]
        · have : ¬ c % k = r := by
            intro q2
            have e1 : c % k = (j + (c - j)) % k := by rw [show j + (c - j) = c by omega]
            rw [Nat.add_mod, hj, Nat.mod_eq_of_lt (show c - j < k by omega)] at e1
            rw [q2] at e1
            by_cases h3 : r + (c - j) < k
            · rw [Nat.mod_eq_of_lt h3] at e1
              omega
            · rw [Nat.mod_eq_sub_mod (by omega), Nat.mod_eq_of_lt (by omega)] at e1
              omega
          unfold sVp
          simp only [decide_eq_false this, Bool.false_and, Bool.and_false]
      obtain ⟨u, hu, hu2⟩ := ih n (j + k) w (by omega) (by rw [Nat.add_mod_right]; exact hj) (by omega) (by omega) (fun a g => (hwa a g).trans (hv a g)) (fun s hs => by rw [hwt s hs, hgap s])
      refine ⟨u, ?_, hu2⟩
      rw [fX3_voteBy_12]
      dsimp only
      rw [rf_96_1, hv1.2.1, if_neg (nI_ge hjl (by omega)), hw, zbindv_some, nI_add]
      exact hu
    · have ht2 : ∀ s, s < 3 → v 97 s = nI (sVt α ρ q k r (sCh ρ).length s) := fun s hs => by rw [ht s hs, hend j s (by omega)]
      refine ⟨v, ?_, ht2, hv⟩
      rw [fX3_voteBy_12]
      dsimp only
      rw [rf_96_1, hv1.2.1, if_pos (nI_le (by omega) (by omega)), p_leading ht2 (fun s => by have := sVt_le α ρ q k r (sCh ρ).length s; omega)]
      rfl
theorem p_vote {v : zV} {α : sA} {l : sL} {ρ : sR} (h : CQ v α l ρ) (ho : OKs α l ρ) {q k r : Nat} (hq : q < α 0 0) (hk : 1 ≤ k ∧ k ≤ 12) (hr : r ≤ 11) : ∃ w, fX3_voteBy 96 (nI q) (nI k) (nI r) v = some (oI (sVote α ρ q k r (sCh ρ).length), w) ∧ (∀ s, s < 3 → w 97 s = nI (sVt α ρ q k r (sCh ρ).length s)) ∧ ∀ a, a ≠ 97 → w a = v a := by
  have hb := bdC_of ho
  have b3 := hb.1.2.2
  obtain ⟨w, hw, hw0, hwa⟩ := p_clear v
  unfold fX3_voteBy
  rw [hw, zbindv_some]
  by_cases e : k ≤ r
  · have hz : ∀ s, sVt α ρ q k r (sCh ρ).length s = 0 := fun s => (zcnt_0 _ _).mpr (fun c hc => by
      have : ¬ c % k = r := by
        have := Nat.mod_lt c (show 0 < k by omega)
        omega
      unfold sVp
      rw [decide_eq_false this]
      rfl)
    have ht : ∀ s, s < 3 → w 97 s = nI (sVt α ρ q k r (sCh ρ).length s) := fun s hs => by rw [hw0 s hs, hz s]
    refine ⟨w, ?_, ht, hwa⟩
    rw [if_pos (nI_le e (by omega)), p_leading ht (fun s => by rw [hz s]; omega)]
    rfl
  · rw [if_neg (nI_ge (by omega) (by omega))]
    have hr2 : r < k := by omega
    exact p_voteL h ho hq hk hr2 (sCh ρ).length zFU r w (by omega) (Nat.mod_eq_of_lt hr2) (by omega) (by unfold zFU; omega) hwa (fun s hs => by
      rw [hw0 s hs, (zcnt_0 _ _).mpr (fun c hc => ?_)]
      have : ¬ c % k = r := by rw [Nat.mod_eq_of_lt (by omega)]; omega
      unfold sVp
      rw [decide_eq_false this]
      simp)
theorem eqM_fr {v w : zV} {α : sA} {l : sL} {ρ : sR} (h : MQ' v α l ρ) (ho : OKs α l ρ) (e : ∀ a, a ≠ 602 → w a = v a) : eqM w α ρ := eqM_of (MQ'_f ho.1 ho.2.1 h (frM_c (r := 602) (by decide) (by decide) e)) ho
theorem p_mVote {v : zV} {α : sA} {l : sL} {ρ : sR} (h : MQ' v α l ρ) (ho : OKs α l ρ) {q k r n0 : Nat} (hq : q < α 0 0) (hk : 1 ≤ k ∧ k ≤ 12) (hr : r ≤ 11) (hn0 : n0 ≤ (sCh ρ).length) : ∃ w, fX10_voteOf 116 (nI q) (nI k) (nI r) (nI n0) v = some (oI (sVote α ρ q k r n0), w) ∧ (∀ s, s < 3 → w 602 s = nI (sVt α ρ q k r n0 s)) ∧ ∀ a, a ≠ 602 → w a = v a := by
  have hb := bdC_of ho
  obtain ⟨⟨b1, b2, b3⟩, bch, bst, bdf, bbl⟩ := hb
  have l29 : ∀ u : zV, (∀ a, a ≠ 602 → u a = v a) → (∀ s, s < 3 → u 602 s = nI 0) → ∃ w, fX10_voteOf_29 zFU 116 (nI q) (nI k) (nI r) (nI n0) (-1) 0 u = some (oI (sVote α ρ q k r n0), w) ∧ (∀ s, s < 3 → w 602 s = nI (sVt α ρ q k r n0 s)) ∧ ∀ a, a ≠ 602 → w a = v a := by
    intro u hu hu0
    have := lpR (σ := Unit) (fun n j _ v => fX10_voteOf_29 n 116 (nI q) (nI k) (nI r) (nI n0) (-1) (nI j) v) (fun _ x => x) n0 (fun j _ w => (∀ a, a ≠ 602 → w a = v a) ∧ ∀ s, s < 3 → w 602 s = nI (sVt α ρ q k r j s)) (fun _ p => p.1 = oI (sVote α ρ q k r n0) ∧ (∀ s, s < 3 → p.2 602 s = nI (sVt α ρ q k r n0 s)) ∧ ∀ a, a ≠ 602 → p.2 a = v a) (fun n1 _ w hK => ?_) (fun n1 j _ w hj hK => ?_) n0 zFU 0 () u (Nat.zero_add _) (by unfold zFU; omega) ⟨hu, fun s hs => hu0 s hs⟩
    · obtain ⟨⟨p1, p2⟩, h1, h2, h3⟩ := this
      subst h2
      exact ⟨p2, h1, h3⟩
    · obtain ⟨hwa, hwt⟩ := hK
      refine ⟨(_, w), ?_, rfl, hwt, hwa⟩
      show fX10_voteOf_29 (n1 + 1) 116 (nI q) (nI k) (nI r) (nI n0) (-1) (nI n0) w = _
      rw [fX10_voteOf_29]
      dsimp only
      rw [if_pos (Int32.le_refl _), p_mLeading hwt (fun s => by have := sVt_le α ρ q k r n0 s; omega)]
      rfl
    · obtain ⟨hwa, hwt⟩ := hK
      obtain ⟨hM, hl, hch, hst, hdf, hbl⟩ := eqM_fr h ho hwa
      have hjl : j < (sCh ρ).length := by omega
      have hcm := bch j hjl
      have c1 := hch j hjl
      have c2 := hbl _ q hcm hq
      have c3 := bbl _ q hcm hq
      have ra := rfa_144 ((sCh ρ).getD j 0) (by omega)
      have la := lna_144 ((sCh ρ).getD j 0) (by omega)
      have c4 := hwt _ c3
      have c5 : znz (nI k) = fun x : Option (Int32 × zV) => x := funext fun x => by
        unfold znz
        rw [if_neg (nI_ne0 (by omega) (by omega))]
      have c6 : nI j - nI j / nI k * nI k = nI (j % k) := pk_rem (by omega) (by omega) (by omega)
      have hmk : j % k < k := Nat.mod_lt _ (by omega)
      have hstep : ∀ s, sVt α ρ q k r (j + 1) s = sVt α ρ q k r j s + if sVp α ρ q k r s j = true then 1 else 0 := fun s => rfl
      show ∃ x, fX10_voteOf_29 (n1 + 1) 116 (nI q) (nI k) (nI r) (nI n0) (-1) (nI j) w = fX10_voteOf_29 n1 116 (nI q) (nI k) (nI r) (nI n0) (-1) (nI (j + 1)) x ∧ _
      rw [fX10_voteOf_29]
      dsimp only
      rw [c5, c6]
      simp (disch := omega) only [↓reduceIte, i_0, i_1, i_2, i_3, i_4, i_5, i_6, i_7, i_8, i_9, i_10, i_11, i_12, i_13, i_14, i_15, i_16, i_17, i_18, i_19, i_20, i_21, i_22, i_23, i_24, i_25, i_26, i_27, i_28, i_29, i_30, i_31, i_32, i_33, i_34, i_35, i_36, i_37, i_38, i_39, i_40, i_41, i_42, i_43, i_44, i_45, i_46, i_47, i_48, i_49, i_50, i_51, i_52, i_53, i_54, i_55, i_56, i_57, i_58, i_59, i_60, i_61, i_62, i_63, i_91, i_93, i_97, i_98, i_99, i_100, i_101, i_102, i_103, i_104, i_122, i_150, i_200, i_255, i_305, i_600, i_729, i_999, i_1365, i_12345, i_32767, i_65536, i_100000, i_1000000, i_1103515245, zlet_eq, zbind_some, zbindv_some, ofN_nI, nI_add, pk_mul, nI_sub', nI_addg, gg_sub, nI_cl', zix_nI, rf_116_9, rf_116_10, rf_116_11, rf_116_12, rf_116_13, rf_116_14, rf_116_15, rf_116_16, rf_116_17, rf_116_18, rf_116_19, rf_116_20, rf_116_21, rf_116_22, rf_116_23, rf_116_24, rf_116_28, rf_116_29, rf_116_30, rf_116_31, rf_116_32, rf_116_33, rf_116_34, rf_116_35, rf_116_36, rf_116_37, rf_116_38, rf_116_39, rf_116_43, rf_116_49, rf_116_51, rf_116_54, rf_116_55, rf_116_56, rf_116_59, ln_127, ln_144, ln_161, ln_174, ln_187, ln_200, ln_213, ln_374, ln_535, ln_548, ln_561, ln_572, ln_577, ln_582, ln_117, ln_118, ln_119, ln_120, ln_121, ln_122, ln_123, ln_124, ln_125, ln_126, ln_565, ln_566, ln_567, ln_568, ln_569, ln_570, ln_571, ln_576, ln_600, ln_601, ln_602, ln_603, c1, ra, la, c2, c4, nI_eq']
      rw [if_neg (nI_ge hj (by omega))]
      by_cases e : j % k = r
      · rw [if_pos e]
        refine ⟨_, rfl, fun a g => (p_up_a _ _ _ g).trans (hwa a g), fun s hs => ?_⟩
        rw [p_up, hstep s]
        unfold sVp
        rw [decide_eq_true e, Bool.true_and]
        by_cases e2 : s = α (10 + (sCh ρ).getD j 0) q
        · rw [if_pos ⟨rfl, e2⟩, if_pos (decide_eq_true e2.symm), e2]
        · rw [if_neg (fun q => e2 q.2), if_neg (by simpa using fun q : _ = _ => e2 q.symm), hwt s hs]
          rfl
      · rw [if_neg e]
        refine ⟨_, rfl, fun a g => (p_up_a _ _ _ g).trans (hwa a g), fun s hs => ?_⟩
        rw [p_up, hstep s]
        unfold sVp
        rw [decide_eq_false e, Bool.false_and]
        by_cases e2 : s = α (10 + (sCh ρ).getD j 0) q
        · rw [if_pos ⟨rfl, e2⟩, e2]
          rfl
        · rw [if_neg (fun q => e2 q.2), hwt s hs]
          rfl
  unfold fX10_voteOf
  have := lpR (σ := Unit) (fun n j _ v => fX10_voteOf_6 n 116 (nI q) (nI k) (nI r) (nI n0) (-1) (nI j) v) (fun _ x => x) 3 (fun j _ w => (∀ a, a ≠ 602 → w a = v a) ∧ ∀ s, s < j → w 602 s = nI 0) (fun _ p => p.1 = oI (sVote α ρ q k r n0) ∧ (∀ s, s < 3 → p.2 602 s = nI (sVt α ρ q k r n0 s)) ∧ ∀ a, a ≠ 602 → p.2 a = v a) (fun n1 _ w hK => ?_) (fun n1 j _ w hj hK => ?_) 3 zFU 0 () v rfl (by unfold zFU; omega) ⟨fun _ _ => rfl, fun s hs => absurd hs (Nat.not_lt_zero s)⟩
  · obtain ⟨⟨p1, p2⟩, h1, h2, h3⟩ := this
    subst h2
    exact ⟨p2, h1, h3⟩
  · obtain ⟨u, hu, hu2⟩ := l29 w hK.1 hK.2
    refine ⟨(_, u), ?_, rfl, hu2⟩
    show fX10_voteOf_6 (n1 + 1) 116 (nI q) (nI k) (nI r) (nI n0) (-1) (nI 3) w = _
    rw [fX10_voteOf_6]
    dsimp only
    rw [if_pos (by decide)]
    exact hu
  · show ∃ x, fX10_voteOf_6 (n1 + 1) 116 (nI q) (nI k) (nI r) (nI n0) (-1) (nI j) w = fX10_voteOf_6 n1 116 (nI q) (nI k) (nI r) (nI n0) (-1) (nI (j + 1)) x ∧ _
    rw [fX10_voteOf_6]
    dsimp only
    simp (disch := omega) only [↓reduceIte, i_0, i_1, i_2, i_3, i_4, i_5, i_6, i_7, i_8, i_9, i_10, i_11, i_12, i_13, i_14, i_15, i_16, i_17, i_18, i_19, i_20, i_21, i_22, i_23, i_24, i_25, i_26, i_27, i_28, i_29, i_30, i_31, i_32, i_33, i_34, i_35, i_36, i_37, i_38, i_39, i_40, i_41, i_42, i_43, i_44, i_45, i_46, i_47, i_48, i_49, i_50, i_51, i_52, i_53, i_54, i_55, i_56, i_57, i_58, i_59, i_60, i_61, i_62, i_63, i_91, i_93, i_97, i_98, i_99, i_100, i_101, i_102, i_103, i_104, i_122, i_150, i_200, i_255, i_305, i_600, i_729, i_999, i_1365, i_12345, i_32767, i_65536, i_100000, i_1000000, i_1103515245, zlet_eq, zbind_some, zbindv_some, ofN_nI, nI_add, pk_mul, nI_sub', nI_addg, gg_sub, nI_cl', zix_nI, rf_116_9, rf_116_10, rf_116_11, rf_116_12, rf_116_13, rf_116_14, rf_116_15, rf_116_16, rf_116_17, rf_116_18, rf_116_19, rf_116_20, rf_116_21, rf_116_22, rf_116_23, rf_116_24, rf_116_28, rf_116_29, rf_116_30, rf_116_31, rf_116_32, rf_116_33, rf_116_34, rf_116_35, rf_116_36, rf_116_37, rf_116_38, rf_116_39, rf_116_43, rf_116_49, rf_116_51, rf_116_54, rf_116_55, rf_116_56, rf_116_59, ln_127, ln_144, ln_161, ln_174, ln_187, ln_200, ln_213, ln_374, ln_535, ln_548, ln_561, ln_572, ln_577, ln_582, ln_117, ln_118, ln_119, ln_120, ln_121, ln_122, ln_123, ln_124, ln_125, ln_126, ln_565, ln_566, ln_567, ln_568, ln_569, ln_570, ln_571, ln_576, ln_600, ln_601, ln_602, ln_603, nI_le']
    rw [if_neg (by omega)]
    refine ⟨_, rfl, fun a ha => (p_up_a _ _ _ ha).trans (hK.1 a ha), fun s hs => ?_⟩
    rw [p_up]
    split
    · rfl
    · rename_i hc
      exact hK.2 s (by
        rcases Nat.lt_or_ge s j with h | h
        · exact h
        · exact absurd ⟨rfl, by omega⟩ hc)
end
