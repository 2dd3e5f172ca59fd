/-! who agrees with whom: the class and the reference -/
section
/-- what the class and the reference know of a question of company, in words for both -/
def eqC (v : zV) (α : sA) (ρ : sR) : Prop := v 3 1 = nI (α 0 1) ∧ v 37 1 = nI (sCh ρ).length ∧ (∀ c, c < (sCh ρ).length → fX7_onChair 37 (nI c) v = some (nI ((sCh ρ).getD c 0), v)) ∧ (∀ m, m < α 0 1 → fX7_isAlive 37 (nI m) v = some (if sSt ρ m = 3 then 0 else 1, v)) ∧ (∀ m, m < α 0 1 → fX7_isWaiting 37 (nI m) v = some (if sSt ρ m = 0 then 1 else 0, v)) ∧ (∀ a b, a < α 0 1 → b < α 0 1 → fX0_differing 3 (nI a) (nI b) v = some (nI (sDf α a b), v)) ∧ (∀ a b, a < α 0 1 → b < α 0 1 → fX0_believeTheSame 3 (nI a) (nI b) v = some (if sDf α a b = 0 then 1 else 0, v)) ∧ (∀ m q, m < α 0 1 → q < α 0 0 → fX0_sideOf 3 (nI m) (nI q) v = some (nI (α (10 + m) q), v))
theorem eqC_of {v : zV} {α : sA} {l : sL} {ρ : sR} (h : CQ v α l ρ) (ho : OKs α l ρ) : eqC v α ρ := by
  have hoC := okW_C ho.1 (ok_13 ho.1) ho.2.2.1
  have hM := ho.1.1.2.1
  exact ⟨h.1.1.1.2.1, h.2.1.2.1, fun c hc => p_onChair r37.1 h.2 hoC hc, fun m hm => p_isAlive r37.1 h.2 hoC (by omega), fun m hm => p_isWaiting r37.1 h.2 hoC (by omega), fun a b ha hb => p_differing h.1.1 ho.1 ha hb, fun a b ha hb => p_same h.1.1 ho.1 ha hb, fun m q hm hq => p_sideOf h.1.1 ho.1 hm hq⟩
/-- bounds -/
def bdC (α : sA) (ρ : sR) : Prop := (α 0 0 ≤ 6 ∧ α 0 1 ≤ 16 ∧ (sCh ρ).length ≤ 12) ∧ (∀ c, c < (sCh ρ).length → (sCh ρ).getD c 0 < α 0 1) ∧ (∀ m, sSt ρ m < 4) ∧ (∀ a b, sDf α a b ≤ 6) ∧ ∀ m q, m < α 0 1 → q < α 0 0 → α (10 + m) q < 3
theorem bdC_of {α : sA} {l : sL} {ρ : sR} (ho : OKs α l ρ) : bdC α ρ := by
  have h1 := ho.1.1
  have h2 := ho.2.2.1.1
  refine ⟨⟨h1.1, h1.2.1, by omega⟩, fun c hc => okW_lt ho.2.2.1 (getD_mem hc), ho.2.2.1.2.2.2.1, fun a b => Nat.le_trans (sDf_le α a b) h1.1, fun m q hm hq => ?_⟩
  have g1 := ho.1.2.2.2.2.2.1 m hm q hq
  have g2 := ho.1.2.1 q hq
  omega
def eqM (v : zV) (α : sA) (ρ : sR) : Prop := v 120 1 = nI (α 0 1) ∧ v 567 61 = nI (sCh ρ).length ∧ (∀ c, c < (sCh ρ).length → v 567 (48 + c) = nI ((sCh ρ).getD c 0)) ∧ (∀ m, m < α 0 1 → v 567 m = nI (sSt ρ m)) ∧ (∀ a b, a < α 0 1 → b < α 0 1 → fX10_differsOf 116 (nI a) (nI b) v = some (nI (sDf α a b), v)) ∧ (∀ m q, m < α 0 1 → q < α 0 0 → v (145 + m) q = nI (α (10 + m) q))
theorem eqM_of {v : zV} {α : sA} {l : sL} {ρ : sR} (h : MQ' v α l ρ) (ho : OKs α l ρ) : eqM v α ρ := by
  have hM := ho.1.1.2.1
  exact ⟨h.1.1.1 1 (by decide), h.2.1.1.1, fun c hc => h.2.1.2.2.2.2.1 c hc, fun m hm => h.2.1.2.1 m (by omega), fun a b ha hb => p_mDiffers h.1.1 ho.1 ha hb, fun m q hm hq => h.1.1.2.2.2.2.1 m hm q hq⟩
/-! how many wait -/
def sWaits (α : sA) (ρ : sR) : Nat := zcnt (fun m => decide (sSt ρ m = 0)) (α 0 1)
theorem p_waiting {v : zV} {α : sA} {ρ : sR} (h : eqC v α ρ) (hb : bdC α ρ) : fX3_waitingMen 96 v = some (nI (sWaits α ρ), v) := by
  obtain ⟨hM, hl, hch, hal, hwt, hdf, hsm, hsd⟩ := h
  obtain ⟨⟨b1, b2, b3⟩, bch, bst, bdf, bbl⟩ := hb
  unfold fX3_waitingMen
  have := lpE (fun n j (s : Nat) => fX3_waitingMen_4 n 96 (nI s) (nI j) v) (fun m s => s + if decide (sSt ρ m = 0) = true then 1 else 0) (α 0 1) (fun s => some (nI s, v)) (fun n s => ?_) (fun n j s hj => ?_) (α 0 1) zFU 0 0 (Nat.zero_add _) (by unfold zFU; omega)
  · refine this.trans ?_
    rw [zit_cnt (fun m => decide (sSt ρ m = 0)), Nat.zero_add]
    rfl
  · show fX3_waitingMen_4 (n + 1) 96 (nI s) (nI (α 0 1)) v = _
    rw [fX3_waitingMen_4]
    dsimp only
    rw [rf_96_0, hM, if_pos (Int32.le_refl _)]
  · show fX3_waitingMen_4 (n + 1) 96 (nI s) (nI j) v = fX3_waitingMen_4 n 96 (nI _) (nI (j + 1)) v
    rw [fX3_waitingMen_4]
    dsimp only
    rw [rf_96_0, hM, if_neg (nI_ge hj (by omega)), rf_96_1, hwt j hj]
    simp only [zbind_some, i_0, i_1, zb_eq, nI_add]
    by_cases e : sSt ρ j = 0
    · rw [if_neg (show ¬ ¬ sSt ρ j = 0 from fun q => q e), if_pos (decide_eq_true e)]
    · simp [e]
theorem p_mWaiting {v : zV} {α : sA} {ρ : sR} (h : eqM v α ρ) (hb : bdC α ρ) : fX10_stateMany 116 567 0 v = some (nI (sWaits α ρ), v) := by
  obtain ⟨hM, hl, hch, hst, hdf, hbl⟩ := h
  obtain ⟨⟨b1, b2, b3⟩, bch, bst, bdf, bbl⟩ := hb
  unfold fX10_stateMany
  have := lpE (fun n j (s : Nat) => fX10_stateMany_5 n 116 567 0 (nI s) (nI j) v) (fun m s => s + if decide (sSt ρ m = 0) = true then 1 else 0) (α 0 1) (fun s => some (nI s, v)) (fun n s => ?_) (fun n j s hj => ?_) (α 0 1) zFU 0 0 (Nat.zero_add _) (by unfold zFU; omega)
  · refine this.trans ?_
    rw [zit_cnt (fun m => decide (sSt ρ m = 0)), Nat.zero_add]
    rfl
  · show fX10_stateMany_5 (n + 1) 116 567 0 (nI s) (nI (α 0 1)) v = _
    rw [fX10_stateMany_5]
    dsimp only
    simp (disch := omega) only [↓reduceIte, i_0, i_1, i_2, i_3, i_4, i_5, i_6, i_7, i_8, i_9, i_10, i_11, i_12, i_13, i_14, i_15, i_16, i_17, i_18, i_19, i_20, i_21, i_22, i_23, i_24, i_25, i_26, i_27, i_28, i_29, i_30, i_31, i_32, i_33, i_34, i_35, i_36, i_37, i_38, i_39, i_40, i_41, i_42, i_43, i_44, i_45, i_46, i_47, i_48, i_49, i_50, i_51, i_52, i_53, i_54, i_55, i_56, i_57, i_58, i_59, i_60, i_61, i_62, i_63, i_91, i_93, i_97, i_98, i_99, i_100, i_101, i_102, i_103, i_104, i_122, i_150, i_200, i_255, i_305, i_600, i_729, i_999, i_1365, i_12345, i_32767, i_65536, i_100000, i_1000000, i_1103515245, zlet_eq, zbind_some, zbindv_some, ofN_nI, nI_add, pk_mul, nI_sub', nI_addg, gg_sub, nI_cl', zix_nI, rf_116_9, rf_116_10, rf_116_11, rf_116_12, rf_116_13, rf_116_14, rf_116_15, rf_116_16, rf_116_17, rf_116_18, rf_116_19, rf_116_20, rf_116_21, rf_116_22, rf_116_23, rf_116_24, rf_116_28, rf_116_29, rf_116_30, rf_116_31, rf_116_32, rf_116_33, rf_116_34, rf_116_35, rf_116_36, rf_116_37, rf_116_38, rf_116_39, rf_116_43, rf_116_49, rf_116_51, rf_116_54, rf_116_55, rf_116_56, rf_116_59, ln_127, ln_144, ln_161, ln_174, ln_187, ln_200, ln_213, ln_374, ln_535, ln_548, ln_561, ln_572, ln_577, ln_582, ln_117, ln_118, ln_119, ln_120, ln_121, ln_122, ln_123, ln_124, ln_125, ln_126, ln_565, ln_566, ln_567, ln_568, ln_569, ln_570, ln_571, ln_576, ln_600, ln_601, ln_602, ln_603, hM]
    rw [if_pos (Int32.le_refl _)]
  · show fX10_stateMany_5 (n + 1) 116 567 0 (nI s) (nI j) v = fX10_stateMany_5 n 116 567 0 (nI _) (nI (j + 1)) v
    have hs := hst j hj
    have b4 := bst j
    rw [fX10_stateMany_5]
    dsimp only
    simp (disch := omega) only [↓reduceIte, i_0, i_1, i_2, i_3, i_4, i_5, i_6, i_7, i_8, i_9, i_10, i_11, i_12, i_13, i_14, i_15, i_16, i_17, i_18, i_19, i_20, i_21, i_22, i_23, i_24, i_25, i_26, i_27, i_28, i_29, i_30, i_31, i_32, i_33, i_34, i_35, i_36, i_37, i_38, i_39, i_40, i_41, i_42, i_43, i_44, i_45, i_46, i_47, i_48, i_49, i_50, i_51, i_52, i_53, i_54, i_55, i_56, i_57, i_58, i_59, i_60, i_61, i_62, i_63, i_91, i_93, i_97, i_98, i_99, i_100, i_101, i_102, i_103, i_104, i_122, i_150, i_200, i_255, i_305, i_600, i_729, i_999, i_1365, i_12345, i_32767, i_65536, i_100000, i_1000000, i_1103515245, zlet_eq, zbind_some, zbindv_some, ofN_nI, nI_add, pk_mul, nI_sub', nI_addg, gg_sub, nI_cl', zix_nI, rf_116_9, rf_116_10, rf_116_11, rf_116_12, rf_116_13, rf_116_14, rf_116_15, rf_116_16, rf_116_17, rf_116_18, rf_116_19, rf_116_20, rf_116_21, rf_116_22, rf_116_23, rf_116_24, rf_116_28, rf_116_29, rf_116_30, rf_116_31, rf_116_32, rf_116_33, rf_116_34, rf_116_35, rf_116_36, rf_116_37, rf_116_38, rf_116_39, rf_116_43, rf_116_49, rf_116_51, rf_116_54, rf_116_55, rf_116_56, rf_116_59, ln_127, ln_144, ln_161, ln_174, ln_187, ln_200, ln_213, ln_374, ln_535, ln_548, ln_561, ln_572, ln_577, ln_582, ln_117, ln_118, ln_119, ln_120, ln_121, ln_122, ln_123, ln_124, ln_125, ln_126, ln_565, ln_566, ln_567, ln_568, ln_569, ln_570, ln_571, ln_576, ln_600, ln_601, ln_602, ln_603, hM, Nat.zero_add, hs, nI_eq', Nat.add_zero]
    rw [if_neg (nI_ge hj (by omega))]
    by_cases e : sSt ρ j = 0
    · rw [if_pos e, if_pos (decide_eq_true e)]
    · simp [e]
/-! ENEMY -/
def sEnS (α : sA) (ρ : sR) (a m : Nat) (e : Option Nat) : Option Nat := if m = a ∨ sSt ρ m = 3 then e else match e with
  | none => some m
  | some x => if sDf α a m ≤ sDf α a x then some x else some m
def sEn (α : sA) (ρ : sR) (a : Nat) : Option Nat := zit (sEnS α ρ a) (α 0 1) 0 none
def sMostE (α : sA) (a : Nat) : Option Nat → Int32
  | none => -1
  | some x => nI (sDf α a x)
theorem sEnS_lt {α : sA} {ρ : sR} {a j : Nat} {e : Option Nat} (hj : j < α 0 1) (h : ∀ m, e = some m → m < α 0 1) : ∀ m, sEnS α ρ a j e = some m → m < α 0 1 := by
  intro m hm
  unfold sEnS at hm
  split at hm
  · exact h m hm
  · cases e with
    | none => cases hm; exact hj
    | some x =>
      have hm' : (if sDf α a j ≤ sDf α a x then some x else some j) = some m := hm
      split at hm'
      · cases hm'; exact h _ rfl
      · cases hm'; exact hj
theorem p_enemy {v : zV} {α : sA} {ρ : sR} (h : eqC v α ρ) (hb : bdC α ρ) {a : Nat} (ha : a < α 0 1) : fX3_worstEnemy 96 (nI a) v = some (oI (sEn α ρ a), v) := by
  obtain ⟨hM, hl, hch, hal, hwt, hdf, hsm, hsd⟩ := h
  obtain ⟨⟨b1, b2, b3⟩, bch, bst, bdf, bbl⟩ := hb
  unfold fX3_worstEnemy
  refine lpE (fun n j (e : Option Nat) => fX3_worstEnemy_7 n 96 (nI a) (oI e) (sMostE α a e) (nI j) v) (sEnS α ρ a) (α 0 1) (fun e => some (oI e, v)) (fun n e => ?_) (fun n j e hj => ?_) (α 0 1) zFU 0 none (Nat.zero_add _) (by unfold zFU; omega)
  · show fX3_worstEnemy_7 (n + 1) 96 (nI a) (oI e) (sMostE α a e) (nI (α 0 1)) v = _
    rw [fX3_worstEnemy_7]
    dsimp only
    rw [rf_96_0, hM, if_pos (Int32.le_refl _)]
  · show fX3_worstEnemy_7 (n + 1) 96 (nI a) (oI e) (sMostE α a e) (nI j) v = fX3_worstEnemy_7 n 96 (nI a) (oI (sEnS α ρ a j e)) (sMostE α a (sEnS α ρ a j e)) (nI (j + 1)) v
    rw [fX3_worstEnemy_7]
    dsimp only
    rw [rf_96_0, hM, if_neg (nI_ge hj (by omega)), hdf a j ha hj, zbind_some, rf_96_1, hal j hj]
    simp (disch := omega) only [zbind_some, i_0, i_1, zb_eqn, nI_eq', nI_add]
    unfold sEnS
    by_cases c1 : j = a
    · rw [if_pos c1, if_pos (Or.inl c1)]
    · rw [if_neg c1]
      by_cases c2 : sSt ρ j = 3
      · rw [if_pos c2, if_pos (Or.inr c2)]
      · have hno : ¬ (j = a ∨ sSt ρ j = 3) := fun q => by
          rcases q with q | q
          · exact c1 q
          · exact c2 q
        rw [if_neg c2, if_neg hno]
        have d1 := bdf a j
        cases e with
        | none =>
          show (if nI (sDf α a j) ≤ -1 then _ else _) = _
          rw [if_neg (show ¬ nI (sDf α a j) ≤ -1 from fun q => by rw [show (-1 : Int32) = -nI 1 from rfl, ng_le2 (by omega) (by decide) (by decide)] at q; exact q)]
          rfl
        | some x =>
          have d2 := bdf a x
          show (if nI (sDf α a j) ≤ nI (sDf α a x) then _ else _) = _
          simp (disch := omega) only [nI_le']
          by_cases c3 : sDf α a j ≤ sDf α a x
          · simp only [if_pos c3]
          · simp only [if_neg c3]
            rfl
theorem p_mEnemy {v : zV} {α : sA} {ρ : sR} (h : eqM v α ρ) (hb : bdC α ρ) {a : Nat} (ha : a < α 0 1) : fX10_enemyOf 116 (nI a) v = some (oI (sEn α ρ a), v) := by
  obtain ⟨hM, hl, hch, hst, hdf, hbl⟩ := h
  obtain ⟨⟨b1, b2, b3⟩, bch, bst, bdf, bbl⟩ := hb
  unfold fX10_enemyOf
  refine lpI (fun n j (e : Option Nat) => fX10_enemyOf_4 n 116 (nI a) (oI e) (nI j) v) (sEnS α ρ a) (α 0 1) (fun e => some (oI e, v)) (fun _ e => ∀ m, e = some m → m < α 0 1) (fun n e hI => ?_) (fun n j e hj hI => ⟨?_, sEnS_lt hj hI⟩) (α 0 1) zFU 0 none (Nat.zero_add _) (by unfold zFU; omega) (fun m hm => by cases hm)
  · show fX10_enemyOf_4 (n + 1) 116 (nI a) (oI e) (nI (α 0 1)) v = _
    rw [fX10_enemyOf_4]
    dsimp only
    simp (disch := omega) only [↓reduceIte, i_0, i_1, i_2, i_3, i_4, i_5, i_6, i_7, i_8, i_9, i_10, i_11, i_12, i_13, i_14, i_15, i_16, i_17, i_18, i_19, i_20, i_21, i_22, i_23, i_24, i_25, i_26, i_27, i_28, i_29, i_30, i_31, i_32, i_33, i_34, i_35, i_36, i_37, i_38, i_39, i_40, i_41, i_42, i_43, i_44, i_45, i_46, i_47, i_48, i_49, i_50, i_51, i_52, i_53, i_54, i_55, i_56, i_57, i_58, i_59, i_60, i_61, i_62, i_63, i_91, i_93, i_97, i_98, i_99, i_100, i_101, i_102, i_103, i_104, i_122, i_150, i_200, i_255, i_305, i_600, i_729, i_999, i_1365, i_12345, i_32767, i_65536, i_100000, i_1000000, i_1103515245, zlet_eq, zbind_some, zbindv_some, ofN_nI, nI_add, pk_mul, nI_sub', nI_addg, gg_sub, nI_cl', zix_nI, rf_116_9, rf_116_10, rf_116_11, rf_116_12, rf_116_13, rf_116_14, rf_116_15, rf_116_16, rf_116_17, rf_116_18, rf_116_19, rf_116_20, rf_116_21, rf_116_22, rf_116_23, rf_116_24, rf_116_28, rf_116_29, rf_116_30, rf_116_31, rf_116_32, rf_116_33, rf_116_34, rf_116_35, rf_116_36, rf_116_37, rf_116_38, rf_116_39, rf_116_43, rf_116_49, rf_116_51, rf_116_54, rf_116_55, rf_116_56, rf_116_59, ln_127, ln_144, ln_161, ln_174, ln_187, ln_200, ln_213, ln_374, ln_535, ln_548, ln_561, ln_572, ln_577, ln_582, ln_117, ln_118, ln_119, ln_120, ln_121, ln_122, ln_123, ln_124, ln_125, ln_126, ln_565, ln_566, ln_567, ln_568, ln_569, ln_570, ln_571, ln_576, ln_600, ln_601, ln_602, ln_603, hM]
    rw [if_pos (Int32.le_refl _)]
  · show fX10_enemyOf_4 (n + 1) 116 (nI a) (oI e) (nI j) v = fX10_enemyOf_4 n 116 (nI a) (oI (sEnS α ρ a j e)) (nI (j + 1)) v
    have hs := hst j hj
    have b4 := bst j
    have hd1 := hdf a j ha hj
    rw [fX10_enemyOf_4]
    dsimp only
    simp (disch := omega) only [↓reduceIte, i_0, i_1, i_2, i_3, i_4, i_5, i_6, i_7, i_8, i_9, i_10, i_11, i_12, i_13, i_14, i_15, i_16, i_17, i_18, i_19, i_20, i_21, i_22, i_23, i_24, i_25, i_26, i_27, i_28, i_29, i_30, i_31, i_32, i_33, i_34, i_35, i_36, i_37, i_38, i_39, i_40, i_41, i_42, i_43, i_44, i_45, i_46, i_47, i_48, i_49, i_50, i_51, i_52, i_53, i_54, i_55, i_56, i_57, i_58, i_59, i_60, i_61, i_62, i_63, i_91, i_93, i_97, i_98, i_99, i_100, i_101, i_102, i_103, i_104, i_122, i_150, i_200, i_255, i_305, i_600, i_729, i_999, i_1365, i_12345, i_32767, i_65536, i_100000, i_1000000, i_1103515245, zlet_eq, zbind_some, zbindv_some, ofN_nI, nI_add, pk_mul, nI_sub', nI_addg, gg_sub, nI_cl', zix_nI, rf_116_9, rf_116_10, rf_116_11, rf_116_12, rf_116_13, rf_116_14, rf_116_15, rf_116_16, rf_116_17, rf_116_18, rf_116_19, rf_116_20, rf_116_21, rf_116_22, rf_116_23, rf_116_24, rf_116_28, rf_116_29, rf_116_30, rf_116_31, rf_116_32, rf_116_33, rf_116_34, rf_116_35, rf_116_36, rf_116_37, rf_116_38, rf_116_39, rf_116_43, rf_116_49, rf_116_51, rf_116_54, rf_116_55, rf_116_56, rf_116_59, ln_127, ln_144, ln_161, ln_174, ln_187, ln_200, ln_213, ln_374, ln_535, ln_548, ln_561, ln_572, ln_577, ln_582, ln_117, ln_118, ln_119, ln_120, ln_121, ln_122, ln_123, ln_124, ln_125, ln_126, ln_565, ln_566, ln_567, ln_568, ln_569, ln_570, ln_571, ln_576, ln_600, ln_601, ln_602, ln_603, hM, Nat.zero_add, hs, hd1, nI_eq']
    rw [if_neg (nI_ge hj (by omega))]
    unfold sEnS
    by_cases c1 : j = a
    · rw [if_pos c1, if_pos (Or.inl c1)]
    · rw [if_neg c1]
      by_cases c2 : sSt ρ j = 3
      · rw [if_pos c2, if_pos (Or.inr c2)]
      · have hno : ¬ (j = a ∨ sSt ρ j = 3) := fun q => by
          rcases q with q | q
          · exact c1 q
          · exact c2 q
        rw [if_neg c2, if_neg hno]
        have d1 := bdf a j
        cases e with
        | none =>
          rw [oI_none, if_pos rfl]
          rfl
        | some x =>
          have hx := hI x rfl
          have d2 := bdf a x
          have hd2 := hdf a x ha hx
          rw [oI_some, if_neg (show ¬ nI x = -nI 1 from fun q => by rw [ng_eq (by omega) (by decide) (by decide)] at q; exact q)]
          simp (disch := omega) only [↓reduceIte, i_0, i_1, i_2, i_3, i_4, i_5, i_6, i_7, i_8, i_9, i_10, i_11, i_12, i_13, i_14, i_15, i_16, i_17, i_18, i_19, i_20, i_21, i_22, i_23, i_24, i_25, i_26, i_27, i_28, i_29, i_30, i_31, i_32, i_33, i_34, i_35, i_36, i_37, i_38, i_39, i_40, i_41, i_42, i_43, i_44, i_45, i_46, i_47, i_48, i_49, i_50, i_51, i_52, i_53, i_54, i_55, i_56, i_57, i_58, i_59, i_60, i_61, i_62, i_63, i_91, i_93, i_97, i_98, i_99, i_100, i_101, i_102, i_103, i_104, i_122, i_150, i_200, i_255, i_305, i_600, i_729, i_999, i_1365, i_12345, i_32767, i_65536, i_100000, i_1000000, i_1103515245, zlet_eq, zbind_some, zbindv_some, ofN_nI, nI_add, pk_mul, nI_sub', nI_addg, gg_sub, nI_cl', zix_nI, rf_116_9, rf_116_10, rf_116_11, rf_116_12, rf_116_13, rf_116_14, rf_116_15, rf_116_16, rf_116_17, rf_116_18, rf_116_19, rf_116_20, rf_116_21, rf_116_22, rf_116_23, rf_116_24, rf_116_28, rf_116_29, rf_116_30, rf_116_31, rf_116_32, rf_116_33, rf_116_34, rf_116_35, rf_116_36, rf_116_37, rf_116_38, rf_116_39, rf_116_43, rf_116_49, rf_116_51, rf_116_54, rf_116_55, rf_116_56, rf_116_59, ln_127, ln_144, ln_161, ln_174, ln_187, ln_200, ln_213, ln_374, ln_535, ln_548, ln_561, ln_572, ln_577, ln_582, ln_117, ln_118, ln_119, ln_120, ln_121, ln_122, ln_123, ln_124, ln_125, ln_126, ln_565, ln_566, ln_567, ln_568, ln_569, ln_570, ln_571, ln_576, ln_600, ln_601, ln_602, ln_603, hd2, nI_le']
          by_cases c3 : sDf α a j ≤ sDf α a x
          · simp only [if_pos c3]
            rfl
          · simp only [if_neg c3]
            rfl
/-! ALLIES, SEAMS, as bits -/
def sAlS (α : sA) (a m : Nat) (b : Int32) : Int32 := if m ≠ a ∧ sDf α a m = 0 then b ||| (1 <<< (nI m &&& 31)) else b
def sAllies (α : sA) (a : Nat) : Int32 := zit (sAlS α a) (α 0 1) 0 0
theorem p_allies {v : zV} {α : sA} {ρ : sR} (h : eqC v α ρ) (hb : bdC α ρ) {a : Nat} (ha : a < α 0 1) : fX3_alliesOf 96 (nI a) v = some (sAllies α a, v) := by
  obtain ⟨hM, hl, hch, hal, hwt, hdf, hsm, hsd⟩ := h
  obtain ⟨⟨b1, b2, b3⟩, bch, bst, bdf, bbl⟩ := hb
  unfold fX3_alliesOf
  refine lpE (fun n j (b : Int32) => fX3_alliesOf_4 n 96 (nI a) b (nI j) v) (sAlS α a) (α 0 1) (fun b => some (b, v)) (fun n b => ?_) (fun n j b hj => ?_) (α 0 1) zFU 0 0 (Nat.zero_add _) (by unfold zFU; omega)
  · show fX3_alliesOf_4 (n + 1) 96 (nI a) b (nI (α 0 1)) v = _
    rw [fX3_alliesOf_4]
    dsimp only
    rw [rf_96_0, hM, if_pos (Int32.le_refl _)]
  · show fX3_alliesOf_4 (n + 1) 96 (nI a) b (nI j) v = fX3_alliesOf_4 n 96 (nI a) (sAlS α a j b) (nI (j + 1)) v
    rw [fX3_alliesOf_4]
    dsimp only
    rw [rf_96_0, hM, if_neg (nI_ge hj (by omega)), hsm a j ha hj]
    unfold sAlS
    simp (disch := omega) only [zbind_some, i_0, i_1, zb_eq, nI_eq', nI_add]
    by_cases c1 : j = a
    · rw [if_pos c1, if_neg (fun q => q.1 c1)]
    · rw [if_neg c1]
      by_cases c2 : sDf α a j = 0
      · rw [if_neg (show ¬ ¬ sDf α a j = 0 from fun q => q c2), if_pos ⟨c1, c2⟩]
      · rw [if_pos c2, if_neg (fun q => c2 q.2)]
theorem or_0 (b : Int32) : b ||| nI 0 = b := by rw [nI_0]; exact Int32.or_zero
theorem p_mAllies {v : zV} {α : sA} {ρ : sR} (h : eqM v α ρ) (hb : bdC α ρ) {a : Nat} (ha : a < α 0 1) : fX10_allies_33 zFU 116 (nI a) 0 0 v = some (sAllies α a, v) := by
  obtain ⟨hM, hl, hch, hst, hdf, hbl⟩ := h
  obtain ⟨⟨b1, b2, b3⟩, bch, bst, bdf, bbl⟩ := hb
  refine lpE (fun n j (b : Int32) => fX10_allies_33 n 116 (nI a) b (nI j) v) (sAlS α a) (α 0 1) (fun b => some (b, v)) (fun n b => ?_) (fun n j b hj => ?_) (α 0 1) zFU 0 0 (Nat.zero_add _) (by unfold zFU; omega)
  · show fX10_allies_33 (n + 1) 116 (nI a) b (nI (α 0 1)) v = _
    rw [fX10_allies_33]
    dsimp only
    simp (disch := omega) only [↓reduceIte, i_0, i_1, i_2, i_3, i_4, i_5, i_6, i_7, i_8, i_9, i_10, i_11, i_12, i_13, i_14, i_15, i_16, i_17, i_18, i_19, i_20, i_21, i_22, i_23, i_24, i_25, i_26, i_27, i_28, i_29, i_30, i_31, i_32, i_33, i_34, i_35, i_36, i_37, i_38, i_39, i_40, i_41, i_42, i_43, i_44, i_45, i_46, i_47, i_48, i_49, i_50, i_51, i_52, i_53, i_54, i_55, i_56, i_57, i_58, i_59, i_60, i_61, i_62, i_63, i_91, i_93, i_97, i_98, i_99, i_100, i_101, i_102, i_103, i_104, i_122, i_150, i_200, i_255, i_305, i_600, i_729, i_999, i_1365, i_12345, i_32767, i_65536, i_100000, i_1000000, i_1103515245, zlet_eq, zbind_some, zbindv_some, ofN_nI, nI_add, pk_mul, nI_sub', nI_addg, gg_sub, nI_cl', zix_nI, rf_116_9, rf_116_10, rf_116_11, rf_116_12, rf_116_13, rf_116_14, rf_116_15, rf_116_16, rf_116_17, rf_116_18, rf_116_19, rf_116_20, rf_116_21, rf_116_22, rf_116_23, rf_116_24, rf_116_28, rf_116_29, rf_116_30, rf_116_31, rf_116_32, rf_116_33, rf_116_34, rf_116_35, rf_116_36, rf_116_37, rf_116_38, rf_116_39, rf_116_43, rf_116_49, rf_116_51, rf_116_54, rf_116_55, rf_116_56, rf_116_59, ln_127, ln_144, ln_161, ln_174, ln_187, ln_200, ln_213, ln_374, ln_535, ln_548, ln_561, ln_572, ln_577, ln_582, ln_117, ln_118, ln_119, ln_120, ln_121, ln_122, ln_123, ln_124, ln_125, ln_126, ln_565, ln_566, ln_567, ln_568, ln_569, ln_570, ln_571, ln_576, ln_600, ln_601, ln_602, ln_603, hM]
    rw [if_pos (Int32.le_refl _)]
  · show fX10_allies_33 (n + 1) 116 (nI a) b (nI j) v = fX10_allies_33 n 116 (nI a) (sAlS α a j b) (nI (j + 1)) v
    have hd1 := hdf a j ha hj
    have d1 := bdf a j
    unfold sAlS
    rw [fX10_allies_33]
    dsimp only
    simp (disch := omega) only [↓reduceIte, i_0, i_1, i_2, i_3, i_4, i_5, i_6, i_7, i_8, i_9, i_10, i_11, i_12, i_13, i_14, i_15, i_16, i_17, i_18, i_19, i_20, i_21, i_22, i_23, i_24, i_25, i_26, i_27, i_28, i_29, i_30, i_31, i_32, i_33, i_34, i_35, i_36, i_37, i_38, i_39, i_40, i_41, i_42, i_43, i_44, i_45, i_46, i_47, i_48, i_49, i_50, i_51, i_52, i_53, i_54, i_55, i_56, i_57, i_58, i_59, i_60, i_61, i_62, i_63, i_91, i_93, i_97, i_98, i_99, i_100, i_101, i_102, i_103, i_104, i_122, i_150, i_200, i_255, i_305, i_600, i_729, i_999, i_1365, i_12345, i_32767, i_65536, i_100000, i_1000000, i_1103515245, zlet_eq, zbind_some, zbindv_some, ofN_nI, nI_add, pk_mul, nI_sub', nI_addg, gg_sub, nI_cl', zix_nI, rf_116_9, rf_116_10, rf_116_11, rf_116_12, rf_116_13, rf_116_14, rf_116_15, rf_116_16, rf_116_17, rf_116_18, rf_116_19, rf_116_20, rf_116_21, rf_116_22, rf_116_23, rf_116_24, rf_116_28, rf_116_29, rf_116_30, rf_116_31, rf_116_32, rf_116_33, rf_116_34, rf_116_35, rf_116_36, rf_116_37, rf_116_38, rf_116_39, rf_116_43, rf_116_49, rf_116_51, rf_116_54, rf_116_55, rf_116_56, rf_116_59, ln_127, ln_144, ln_161, ln_174, ln_187, ln_200, ln_213, ln_374, ln_535, ln_548, ln_561, ln_572, ln_577, ln_582, ln_117, ln_118, ln_119, ln_120, ln_121, ln_122, ln_123, ln_124, ln_125, ln_126, ln_565, ln_566, ln_567, ln_568, ln_569, ln_570, ln_571, ln_576, ln_600, ln_601, ln_602, ln_603, hM, hd1, nI_eq', or_0]
    rw [if_neg (nI_ge hj (by omega))]
    by_cases c1 : j = a
    · rw [if_pos c1, if_neg (fun q => q.1 c1)]
    · rw [if_neg c1]
      by_cases c2 : sDf α a j = 0
      · rw [if_pos c2, if_pos ⟨c1, c2⟩]
      · rw [if_neg c2, if_neg (fun q => c2 q.2)]
def sSmS (α : sA) (ρ : sR) (c : Nat) (b : Int32) : Int32 := if sDf α ((sCh ρ).getD (c - 1) 0) ((sCh ρ).getD c 0) = 0 then b ||| (1 <<< (nI c &&& 31)) else b
def sSeams (α : sA) (ρ : sR) : Int32 := zit (sSmS α ρ) ((sCh ρ).length - 1) 1 0
theorem lpF1 {σ R : Type} (F : Nat → Nat → σ → Option R) (g : Nat → σ → σ) (N : Nat) (fin : σ → Option R) (hstop : ∀ n s, F (n + 1) 1 s = if N ≤ 1 then fin s else F (n + 1) 1 s)
    (he : ∀ n s, F (n + 1) N s = fin s) (hs : ∀ n j s, 1 ≤ j → j < N → F (n + 1) j s = F n (j + 1) (g j s)) : ∀ (n : Nat) (s : σ), N < n → F n 1 s = fin (zit g (N - 1) 1 s) := by
  intro n s hn
  by_cases h1 : N ≤ 1
  · obtain ⟨n, rfl⟩ : ∃ k, n = k + 1 := ⟨n - 1, by omega⟩
    rw [hstop, if_pos h1, show N - 1 = 0 by omega]
    rfl
  · have := lpI F g N fin (fun j _ => 1 ≤ j) (fun n s _ => he n s) (fun n j s hj h => ⟨hs n j s h hj, by omega⟩) (N - 1) n 1 s (by omega) (by omega) (Nat.le_refl _)
    exact this
theorem p_seams {v : zV} {α : sA} {ρ : sR} (h : eqC v α ρ) (hb : bdC α ρ) : fX3_seamChairs 96 v = some (sSeams α ρ, v) := by
  obtain ⟨hM, hl, hch, hal, hwt, hdf, hsm, hsd⟩ := h
  obtain ⟨⟨b1, b2, b3⟩, bch, bst, bdf, bbl⟩ := hb
  unfold fX3_seamChairs
  refine lpF1 (fun n j (b : Int32) => fX3_seamChairs_4 n 96 b (nI j) v) (sSmS α ρ) (sCh ρ).length (fun b => some (b, v)) (fun n b => ?_) (fun n b => ?_) (fun n j b h1 hj => ?_) zFU 0 (by unfold zFU; omega)
  · show fX3_seamChairs_4 (n + 1) 96 b (nI 1) v = if _ then _ else fX3_seamChairs_4 (n + 1) 96 b (nI 1) v
    split
    · rename_i h1
      rw [fX3_seamChairs_4]
      dsimp only
      rw [rf_96_1, hl, if_pos (nI_le h1 (by decide))]
    · rfl
  · show fX3_seamChairs_4 (n + 1) 96 b (nI (sCh ρ).length) v = _
    rw [fX3_seamChairs_4]
    dsimp only
    rw [rf_96_1, hl, if_pos (Int32.le_refl _)]
  · show fX3_seamChairs_4 (n + 1) 96 b (nI j) v = fX3_seamChairs_4 n 96 (sSmS α ρ j b) (nI (j + 1)) v
    have c1 := hch (j - 1) (by omega)
    have c2 := hch j hj
    have s1 := hsm _ _ (bch (j - 1) (by omega)) (bch j hj)
    unfold sSmS
    rw [fX3_seamChairs_4]
    dsimp only
    simp (disch := omega) only [↓reduceIte, i_0, i_1, i_2, i_3, i_4, i_5, i_6, i_7, i_8, i_9, i_10, i_11, i_12, i_13, i_14, i_15, i_16, i_17, i_18, i_19, i_20, i_21, i_22, i_23, i_24, i_25, i_26, i_27, i_28, i_29, i_30, i_31, i_32, i_33, i_34, i_35, i_36, i_37, i_38, i_39, i_40, i_41, i_42, i_43, i_44, i_45, i_46, i_47, i_48, i_49, i_50, i_51, i_52, i_53, i_54, i_55, i_56, i_57, i_58, i_59, i_60, i_61, i_62, i_63, i_91, i_93, i_97, i_98, i_99, i_100, i_101, i_102, i_103, i_104, i_122, i_150, i_200, i_255, i_305, i_600, i_729, i_999, i_1365, i_12345, i_32767, i_65536, i_100000, i_1000000, i_1103515245, zlet_eq, zbind_some, zbindv_some, ofN_nI, nI_add, pk_mul, nI_sub', nI_addg, gg_sub, nI_cl', zix_nI, rf_96_0, rf_96_1, rf_96_2, ln_97, hl, c1, c2, s1, zb_eq]
    rw [if_neg (nI_ge hj (by omega))]
    by_cases e : sDf α ((sCh ρ).getD (j - 1) 0) ((sCh ρ).getD j 0) = 0
    · rw [if_neg (fun q => q e), if_pos e]
    · rw [if_pos e, if_neg e]
theorem p_mSeams {v : zV} {α : sA} {ρ : sR} (h : eqM v α ρ) (hb : bdC α ρ) : fX10_seams_9 zFU 116 0 1 v = some (sSeams α ρ, v) := by
  obtain ⟨hM, hl, hch, hst, hdf, hbl⟩ := h
  obtain ⟨⟨b1, b2, b3⟩, bch, bst, bdf, bbl⟩ := hb
  refine lpF1 (fun n j (b : Int32) => fX10_seams_9 n 116 b (nI j) v) (sSmS α ρ) (sCh ρ).length (fun b => some (b, v)) (fun n b => ?_) (fun n b => ?_) (fun n j b h1 hj => ?_) zFU 0 (by unfold zFU; omega)
  · show fX10_seams_9 (n + 1) 116 b (nI 1) v = if _ then _ else fX10_seams_9 (n + 1) 116 b (nI 1) v
    split
    · rename_i h1
      rw [fX10_seams_9]
      dsimp only
      simp (disch := omega) only [↓reduceIte, i_0, i_1, i_2, i_3, i_4, i_5, i_6, i_7, i_8, i_9, i_10, i_11, i_12, i_13, i_14, i_15, i_16, i_17, i_18, i_19, i_20, i_21, i_22, i_23, i_24, i_25, i_26, i_27, i_28, i_29, i_30, i_31, i_32, i_33, i_34, i_35, i_36, i_37, i_38, i_39, i_40, i_41, i_42, i_43, i_44, i_45, i_46, i_47, i_48, i_49, i_50, i_51, i_52, i_53, i_54, i_55, i_56, i_57, i_58, i_59, i_60, i_61, i_62, i_63, i_91, i_93, i_97, i_98, i_99, i_100, i_101, i_102, i_103, i_104, i_122, i_150, i_200, i_255, i_305, i_600, i_729, i_999, i_1365, i_12345, i_32767, i_65536, i_100000, i_1000000, i_1103515245, zlet_eq, zbind_some, zbindv_some, ofN_nI, nI_add, pk_mul, nI_sub', nI_addg, gg_sub, nI_cl', zix_nI, rf_116_9, rf_116_10, rf_116_11, rf_116_12, rf_116_13, rf_116_14, rf_116_15, rf_116_16, rf_116_17, rf_116_18, rf_116_19, rf_116_20, rf_116_21, rf_116_22, rf_116_23, rf_116_24, rf_116_28, rf_116_29, rf_116_30, rf_116_31, rf_116_32, rf_116_33, rf_116_34, rf_116_35, rf_116_36, rf_116_37, rf_116_38, rf_116_39, rf_116_43, rf_116_49, rf_116_51, rf_116_54, rf_116_55, rf_116_56, rf_116_59, ln_127, ln_144, ln_161, ln_174, ln_187, ln_200, ln_213, ln_374, ln_535, ln_548, ln_561, ln_572, ln_577, ln_582, ln_117, ln_118, ln_119, ln_120, ln_121, ln_122, ln_123, ln_124, ln_125, ln_126, ln_565, ln_566, ln_567, ln_568, ln_569, ln_570, ln_571, ln_576, ln_600, ln_601, ln_602, ln_603, hl]
      rw [if_pos (nI_le h1 (by decide))]
    · rfl
  · show fX10_seams_9 (n + 1) 116 b (nI (sCh ρ).length) v = _
    rw [fX10_seams_9]
    dsimp only
    simp (disch := omega) only [↓reduceIte, i_0, i_1, i_2, i_3, i_4, i_5, i_6, i_7, i_8, i_9, i_10, i_11, i_12, i_13, i_14, i_15, i_16, i_17, i_18, i_19, i_20, i_21, i_22, i_23, i_24, i_25, i_26, i_27, i_28, i_29, i_30, i_31, i_32, i_33, i_34, i_35, i_36, i_37, i_38, i_39, i_40, i_41, i_42, i_43, i_44, i_45, i_46, i_47, i_48, i_49, i_50, i_51, i_52, i_53, i_54, i_55, i_56, i_57, i_58, i_59, i_60, i_61, i_62, i_63, i_91, i_93, i_97, i_98, i_99, i_100, i_101, i_102, i_103, i_104, i_122, i_150, i_200, i_255, i_305, i_600, i_729, i_999, i_1365, i_12345, i_32767, i_65536, i_100000, i_1000000, i_1103515245, zlet_eq, zbind_some, zbindv_some, ofN_nI, nI_add, pk_mul, nI_sub', nI_addg, gg_sub, nI_cl', zix_nI, rf_116_9, rf_116_10, rf_116_11, rf_116_12, rf_116_13, rf_116_14, rf_116_15, rf_116_16, rf_116_17, rf_116_18, rf_116_19, rf_116_20, rf_116_21, rf_116_22, rf_116_23, rf_116_24, rf_116_28, rf_116_29, rf_116_30, rf_116_31, rf_116_32, rf_116_33, rf_116_34, rf_116_35, rf_116_36, rf_116_37, rf_116_38, rf_116_39, rf_116_43, rf_116_49, rf_116_51, rf_116_54, rf_116_55, rf_116_56, rf_116_59, ln_127, ln_144, ln_161, ln_174, ln_187, ln_200, ln_213, ln_374, ln_535, ln_548, ln_561, ln_572, ln_577, ln_582, ln_117, ln_118, ln_119, ln_120, ln_121, ln_122, ln_123, ln_124, ln_125, ln_126, ln_565, ln_566, ln_567, ln_568, ln_569, ln_570, ln_571, ln_576, ln_600, ln_601, ln_602, ln_603, hl]
    rw [if_pos (Int32.le_refl _)]
  · show fX10_seams_9 (n + 1) 116 b (nI j) v = fX10_seams_9 n 116 (sSmS α ρ j b) (nI (j + 1)) v
    have c1 := hch (j - 1) (by omega)
    have c2 := hch j hj
    have s1 := hdf _ _ (bch (j - 1) (by omega)) (bch j hj)
    have d1 := bdf ((sCh ρ).getD (j - 1) 0) ((sCh ρ).getD j 0)
    have e1 : 48 + j - 1 = 48 + (j - 1) := by omega
    unfold sSmS
    rw [fX10_seams_9]
    dsimp only
    simp (disch := omega) only [↓reduceIte, i_0, i_1, i_2, i_3, i_4, i_5, i_6, i_7, i_8, i_9, i_10, i_11, i_12, i_13, i_14, i_15, i_16, i_17, i_18, i_19, i_20, i_21, i_22, i_23, i_24, i_25, i_26, i_27, i_28, i_29, i_30, i_31, i_32, i_33, i_34, i_35, i_36, i_37, i_38, i_39, i_40, i_41, i_42, i_43, i_44, i_45, i_46, i_47, i_48, i_49, i_50, i_51, i_52, i_53, i_54, i_55, i_56, i_57, i_58, i_59, i_60, i_61, i_62, i_63, i_91, i_93, i_97, i_98, i_99, i_100, i_101, i_102, i_103, i_104, i_122, i_150, i_200, i_255, i_305, i_600, i_729, i_999, i_1365, i_12345, i_32767, i_65536, i_100000, i_1000000, i_1103515245, zlet_eq, zbind_some, zbindv_some, ofN_nI, nI_add, pk_mul, nI_sub', nI_addg, gg_sub, nI_cl', zix_nI, rf_116_9, rf_116_10, rf_116_11, rf_116_12, rf_116_13, rf_116_14, rf_116_15, rf_116_16, rf_116_17, rf_116_18, rf_116_19, rf_116_20, rf_116_21, rf_116_22, rf_116_23, rf_116_24, rf_116_28, rf_116_29, rf_116_30, rf_116_31, rf_116_32, rf_116_33, rf_116_34, rf_116_35, rf_116_36, rf_116_37, rf_116_38, rf_116_39, rf_116_43, rf_116_49, rf_116_51, rf_116_54, rf_116_55, rf_116_56, rf_116_59, ln_127, ln_144, ln_161, ln_174, ln_187, ln_200, ln_213, ln_374, ln_535, ln_548, ln_561, ln_572, ln_577, ln_582, ln_117, ln_118, ln_119, ln_120, ln_121, ln_122, ln_123, ln_124, ln_125, ln_126, ln_565, ln_566, ln_567, ln_568, ln_569, ln_570, ln_571, ln_576, ln_600, ln_601, ln_602, ln_603, hl, e1, c1, c2, s1, nI_eq', or_0]
    rw [if_neg (nI_ge hj (by omega))]
    by_cases e : sDf α ((sCh ρ).getD (j - 1) 0) ((sCh ρ).getD j 0) = 0
    · rw [if_pos e, if_pos e]
    · rw [if_neg e, if_neg e]
end
