/-! who agrees with whom, gone on: loops within loops -/
section
theorem zix_sm {β : Type} {a n : Nat} (h : a < n) (hn : n ≤ 1000) (k : Option β) : zix (nI a) n k = k := zix_nI h (by omega) k
/-! PAIR -/
abbrev sPt : Type := Option Nat × Option Nat × Option Nat
def sPrS (α : sA) (ρ : sR) (a b : Nat) (s : sPt) : sPt := if sSt ρ a = 3 ∨ sSt ρ b = 3 then s else match s.2.2 with
  | none => (some a, some b, some (sDf α a b))
  | some m => if sDf α a b ≤ m then s else (some a, some b, some (sDf α a b))
def sPrL (α : sA) (ρ : sR) (a : Nat) (s : sPt) : sPt := zit (sPrS α ρ a) (α 0 1 - (a + 1)) (a + 1) s
def sPair (α : sA) (ρ : sR) : sPt := zit (sPrL α ρ) (α 0 1) 0 (none, none, none)
def sPairO (s : sPt) (what : Nat) : Int32 := if what = 0 then oI s.1 else if what = 1 then oI s.2.1 else oI s.2.2
theorem sPr_le {α : sA} {ρ : sR} (bdf : ∀ a b, sDf α a b ≤ 6) {a b : Nat} {s : sPt} (h : ∀ m, s.2.2 = some m → m ≤ 6) : ∀ m, (sPrS α ρ a b s).2.2 = some m → m ≤ 6 := by
  intro m hm
  unfold sPrS at hm
  split at hm
  · exact h m hm
  · split at hm
    · cases hm; exact bdf a b
    · split at hm
      · exact h m hm
      · cases hm; exact bdf a b
theorem sPrL_le {α : sA} {ρ : sR} (bdf : ∀ a b, sDf α a b ≤ 6) {a : Nat} {s : sPt} (ha : a < α 0 1) (h : ∀ m, s.2.2 = some m → m ≤ 6) : ∀ m, (sPrL α ρ a s).2.2 = some m → m ≤ 6 :=
  zit_inv (fun _ (s : sPt) => ∀ m, s.2.2 = some m → m ≤ 6) (α 0 1) (fun j s _ hs => sPr_le bdf hs) (α 0 1 - (a + 1)) (a + 1) s (by omega) h
theorem p_pairI {v : zV} {α : sA} {ρ : sR} (h : eqC v α ρ) (hb : bdC α ρ) (K : Nat → Int32 → Int32 → Int32 → Int32 → Int32 → zV → Option (Int32 × zV)) (w : Int32) {a : Nat} (ha : a < α 0 1) (s : sPt) (hs6 : ∀ m, s.2.2 = some m → m ≤ 6) : fX3_mostUnlike_28 K zFU 96 w (oI s.1) (oI s.2.1) (oI s.2.2) (nI a) (nI (a + 1)) v = K 96 w (oI (sPrL α ρ a s).1) (oI (sPrL α ρ a s).2.1) (oI (sPrL α ρ a s).2.2) (nI (a + 1)) v := by
  obtain ⟨hM, hl, hch, hal, hwt, hdf, hsm, hsd⟩ := h
  obtain ⟨⟨b1, b2, b3⟩, bch, bst, bdf, bbl⟩ := hb
  refine lpI (fun n j (s : sPt) => fX3_mostUnlike_28 K n 96 w (oI s.1) (oI s.2.1) (oI s.2.2) (nI a) (nI j) v) (sPrS α ρ a) (α 0 1) (fun s => K 96 w (oI s.1) (oI s.2.1) (oI s.2.2) (nI (a + 1)) v) (fun _ s => ∀ m, s.2.2 = some m → m ≤ 6) (fun n s hs => ?_) (fun n j s hj hs => ⟨?_, sPr_le bdf hs⟩) (α 0 1 - (a + 1)) zFU (a + 1) s (by omega) (by unfold zFU; omega) hs6
  · show fX3_mostUnlike_28 K (n + 1) 96 w (oI s.1) (oI s.2.1) (oI s.2.2) (nI a) (nI (α 0 1)) v = _
    rw [fX3_mostUnlike_28]
    dsimp only
    rw [rf_96_0, hM, if_pos (Int32.le_refl _), nI_1]
  · show fX3_mostUnlike_28 K (n + 1) 96 w (oI s.1) (oI s.2.1) (oI s.2.2) (nI a) (nI j) v = fX3_mostUnlike_28 K n 96 w (oI (sPrS α ρ a j s).1) (oI (sPrS α ρ a j s).2.1) (oI (sPrS α ρ a j s).2.2) (nI a) (nI (j + 1)) v
    rw [fX3_mostUnlike_28]
    dsimp only
    have ha1 := hal a ha
    have hj1 := hal j hj
    rw [rf_96_0, hM, if_neg (nI_ge hj (by omega)), hdf a j ha hj, zbind_some, rf_96_1]
    simp (disch := omega) only [zbind_some, ha1, hj1, i_0, i_1, zb_eqn, nI_add]
    unfold sPrS
    by_cases c1 : sSt ρ a = 3
    · rw [if_pos c1, if_pos (Or.inl c1)]
    · rw [if_neg c1]
      by_cases c2 : sSt ρ j = 3
      · rw [if_pos c2, if_pos (Or.inr c2)]
      · have hno : ¬ (sSt ρ a = 3 ∨ sSt ρ j = 3) := fun q => by
          rcases q with q | q
          · exact c1 q
          · exact c2 q
        rw [if_neg c2, if_neg hno]
        have d1 := bdf a j
        obtain ⟨s1, s2, s3⟩ := s
        cases s3 with
        | none =>
          dsimp only
          rw [oI_none, if_neg (show ¬ nI (sDf α a j) ≤ -nI 1 from fun q => by rw [ng_le2 (by omega) (by decide) (by decide)] at q; exact q)]
          rfl
        | some m =>
          have h6 := hs m rfl
          dsimp only
          rw [oI_some]
          simp (disch := omega) only [nI_le']
          by_cases c3 : sDf α a j ≤ m
          · rw [if_pos c3, if_pos c3]
            rfl
          · rw [if_neg c3, if_neg c3]
            rfl
theorem p_pair {v : zV} {α : sA} {ρ : sR} (h : eqC v α ρ) (hb : bdC α ρ) {what : Nat} (hw : what ≤ 2) : fX3_mostUnlike 96 (nI what) v = some (sPairO (sPair α ρ) what, v) := by
  have hM := h.1
  have b2 := hb.1.2.1
  have bdf := hb.2.2.2.1
  unfold fX3_mostUnlike
  refine lpI (fun n j (s : sPt) => fX3_mostUnlike_10 n 96 (nI what) (oI s.1) (oI s.2.1) (oI s.2.2) (nI j) v) (sPrL α ρ) (α 0 1) (fun s => some (sPairO s what, v)) (fun _ s => ∀ m, s.2.2 = some m → m ≤ 6) (fun n s hs => ?_) (fun n j s hj hs => ⟨?_, sPrL_le bdf hj hs⟩) (α 0 1) zFU 0 (none, none, none) (Nat.zero_add _) (by unfold zFU; omega) (fun m hm => by cases hm)
  · show fX3_mostUnlike_10 (n + 1) 96 (nI what) (oI s.1) (oI s.2.1) (oI s.2.2) (nI (α 0 1)) v = _
    rw [fX3_mostUnlike_10]
    dsimp only
    rw [rf_96_0, hM, if_pos (Int32.le_refl _)]
    unfold sPairO
    simp (disch := omega) only [i_0, i_1, nI_eq']
    by_cases c0 : what = 0
    · rw [if_pos c0, if_pos c0]
    · rw [if_neg c0, if_neg c0]
      by_cases c1 : what = 1
      · rw [if_pos c1, if_pos c1]
      · rw [if_neg c1, if_neg c1]
  · show fX3_mostUnlike_10 (n + 1) 96 (nI what) (oI s.1) (oI s.2.1) (oI s.2.2) (nI j) v = fX3_mostUnlike_10 n 96 (nI what) (oI (sPrL α ρ j s).1) (oI (sPrL α ρ j s).2.1) (oI (sPrL α ρ j s).2.2) (nI (j + 1)) v
    rw [fX3_mostUnlike_10]
    dsimp only
    rw [rf_96_0, hM, if_neg (nI_ge hj (by omega)), nI_1]
    exact p_pairI h hb _ _ hj s hs
theorem p_mPairI {v : zV} {α : sA} {ρ : sR} (h : eqM v α ρ) (hb : bdC α ρ) (K : Nat → Int32 → Int32 → Int32 → Int32 → Int32 → zV → Option (Int32 × zV)) (w : Int32) {a : Nat} (ha : a < α 0 1) (s : sPt) (hs6 : ∀ m, s.2.2 = some m → m ≤ 6) : fX10_pair_57 K zFU 116 w (oI s.1) (oI s.2.1) (oI s.2.2) (nI a) (nI (a + 1)) v = K 116 w (oI (sPrL α ρ a s).1) (oI (sPrL α ρ a s).2.1) (oI (sPrL α ρ a s).2.2) (nI (a + 1)) v := by
  obtain ⟨hM, hl, hch, hst, hdf, hbl⟩ := h
  obtain ⟨⟨b1, b2, b3⟩, bch, bst, bdf, bbl⟩ := hb
  refine lpI (fun n j (s : sPt) => fX10_pair_57 K n 116 w (oI s.1) (oI s.2.1) (oI s.2.2) (nI a) (nI j) v) (sPrS α ρ a) (α 0 1) (fun s => K 116 w (oI s.1) (oI s.2.1) (oI s.2.2) (nI (a + 1)) v) (fun _ s => ∀ m, s.2.2 = some m → m ≤ 6) (fun n s hs => ?_) (fun n j s hj hs => ⟨?_, sPr_le bdf hs⟩) (α 0 1 - (a + 1)) zFU (a + 1) s (by omega) (by unfold zFU; omega) hs6
  · show fX10_pair_57 K (n + 1) 116 w (oI s.1) (oI s.2.1) (oI s.2.2) (nI a) (nI (α 0 1)) v = _
    rw [fX10_pair_57]
    dsimp only
    simp (disch := omega) only [↓reduceIte, i_0, i_1, i_2, i_3, i_4, i_5, i_6, i_7, i_8, i_9, i_10, i_11, i_12, i_13, i_14, i_15, i_16, i_17, i_18, i_19, i_20, i_21, i_22, i_23, i_24, i_25, i_26, i_27, i_28, i_29, i_30, i_31, i_32, i_33, i_34, i_35, i_36, i_37, i_38, i_39, i_40, i_41, i_42, i_43, i_44, i_45, i_46, i_47, i_48, i_49, i_50, i_51, i_52, i_53, i_54, i_55, i_56, i_57, i_58, i_59, i_60, i_61, i_62, i_63, i_91, i_93, i_97, i_98, i_99, i_100, i_101, i_102, i_103, i_104, i_122, i_150, i_200, i_255, i_305, i_600, i_729, i_999, i_1365, i_12345, i_32767, i_65536, i_100000, i_1000000, i_1103515245, zlet_eq, zbind_some, zbindv_some, ofN_nI, nI_add, pk_mul, nI_sub', nI_addg, gg_sub, nI_cl', zix_nI, rf_116_9, rf_116_10, rf_116_11, rf_116_12, rf_116_13, rf_116_14, rf_116_15, rf_116_16, rf_116_17, rf_116_18, rf_116_19, rf_116_20, rf_116_21, rf_116_22, rf_116_23, rf_116_24, rf_116_28, rf_116_29, rf_116_30, rf_116_31, rf_116_32, rf_116_33, rf_116_34, rf_116_35, rf_116_36, rf_116_37, rf_116_38, rf_116_39, rf_116_43, rf_116_49, rf_116_51, rf_116_54, rf_116_55, rf_116_56, rf_116_59, ln_127, ln_144, ln_161, ln_174, ln_187, ln_200, ln_213, ln_374, ln_535, ln_548, ln_561, ln_572, ln_577, ln_582, ln_117, ln_118, ln_119, ln_120, ln_121, ln_122, ln_123, ln_124, ln_125, ln_126, ln_565, ln_566, ln_567, ln_568, ln_569, ln_570, ln_571, ln_576, ln_600, ln_601, ln_602, ln_603, hM]
    rw [if_pos (Int32.le_refl _)]
  · show fX10_pair_57 K (n + 1) 116 w (oI s.1) (oI s.2.1) (oI s.2.2) (nI a) (nI j) v = fX10_pair_57 K n 116 w (oI (sPrS α ρ a j s).1) (oI (sPrS α ρ a j s).2.1) (oI (sPrS α ρ a j s).2.2) (nI a) (nI (j + 1)) v
    have g1 := hst a ha
    have g2 := hst j hj
    have g3 := hdf a j ha hj
    have f1 := bst a
    have f2 := bst j
    rw [fX10_pair_57]
    dsimp only
    simp (disch := omega) only [↓reduceIte, i_0, i_1, i_2, i_3, i_4, i_5, i_6, i_7, i_8, i_9, i_10, i_11, i_12, i_13, i_14, i_15, i_16, i_17, i_18, i_19, i_20, i_21, i_22, i_23, i_24, i_25, i_26, i_27, i_28, i_29, i_30, i_31, i_32, i_33, i_34, i_35, i_36, i_37, i_38, i_39, i_40, i_41, i_42, i_43, i_44, i_45, i_46, i_47, i_48, i_49, i_50, i_51, i_52, i_53, i_54, i_55, i_56, i_57, i_58, i_59, i_60, i_61, i_62, i_63, i_91, i_93, i_97, i_98, i_99, i_100, i_101, i_102, i_103, i_104, i_122, i_150, i_200, i_255, i_305, i_600, i_729, i_999, i_1365, i_12345, i_32767, i_65536, i_100000, i_1000000, i_1103515245, zlet_eq, zbind_some, zbindv_some, ofN_nI, nI_add, pk_mul, nI_sub', nI_addg, gg_sub, nI_cl', zix_nI, rf_116_9, rf_116_10, rf_116_11, rf_116_12, rf_116_13, rf_116_14, rf_116_15, rf_116_16, rf_116_17, rf_116_18, rf_116_19, rf_116_20, rf_116_21, rf_116_22, rf_116_23, rf_116_24, rf_116_28, rf_116_29, rf_116_30, rf_116_31, rf_116_32, rf_116_33, rf_116_34, rf_116_35, rf_116_36, rf_116_37, rf_116_38, rf_116_39, rf_116_43, rf_116_49, rf_116_51, rf_116_54, rf_116_55, rf_116_56, rf_116_59, ln_127, ln_144, ln_161, ln_174, ln_187, ln_200, ln_213, ln_374, ln_535, ln_548, ln_561, ln_572, ln_577, ln_582, ln_117, ln_118, ln_119, ln_120, ln_121, ln_122, ln_123, ln_124, ln_125, ln_126, ln_565, ln_566, ln_567, ln_568, ln_569, ln_570, ln_571, ln_576, ln_600, ln_601, ln_602, ln_603, Nat.zero_add, hM, g1, g2, g3, nI_eq']
    rw [if_neg (nI_ge hj (by omega))]
    unfold sPrS
    by_cases c1 : sSt ρ a = 3
    · rw [if_pos c1, if_pos (Or.inl c1)]
    · rw [if_neg c1]
      by_cases c2 : sSt ρ j = 3
      · rw [if_pos c2, if_pos (Or.inr c2)]
      · have hno : ¬ (sSt ρ a = 3 ∨ sSt ρ j = 3) := fun q => by
          rcases q with q | q
          · exact c1 q
          · exact c2 q
        rw [if_neg c2, if_neg hno]
        have d1 := bdf a j
        obtain ⟨s1, s2, s3⟩ := s
        cases s3 with
        | none =>
          dsimp only
          rw [oI_none, if_pos (of_eq_true (ng_lt (by omega) (by decide) (by decide)))]
          rfl
        | some m =>
          have h6 := hs m rfl
          dsimp only
          rw [oI_some]
          simp (disch := omega) only [nI_lt']
          by_cases c3 : sDf α a j ≤ m
          · rw [if_neg (by omega), if_pos c3]
            rfl
          · rw [if_pos (by omega), if_neg c3]
            rfl
theorem p_mPair {v : zV} {α : sA} {ρ : sR} (h : eqM v α ρ) (hb : bdC α ρ) {what : Nat} (hw : what ≤ 2) : fX10_pair_40 zFU 116 (nI what) (-1) (-1) (-1) 0 v = some (sPairO (sPair α ρ) what, v) := by
  have hM := h.1
  have b2 := hb.1.2.1
  have bdf := hb.2.2.2.1
  refine lpI (fun n j (s : sPt) => fX10_pair_40 n 116 (nI what) (oI s.1) (oI s.2.1) (oI s.2.2) (nI j) v) (sPrL α ρ) (α 0 1) (fun s => some (sPairO s what, v)) (fun _ s => ∀ m, s.2.2 = some m → m ≤ 6) (fun n s hs => ?_) (fun n j s hj hs => ⟨?_, sPrL_le bdf hj hs⟩) (α 0 1) zFU 0 (none, none, none) (Nat.zero_add _) (by unfold zFU; omega) (fun m hm => by cases hm)
  · show fX10_pair_40 (n + 1) 116 (nI what) (oI s.1) (oI s.2.1) (oI s.2.2) (nI (α 0 1)) v = _
    rw [fX10_pair_40]
    dsimp only
    simp (disch := omega) only [↓reduceIte, i_0, i_1, i_2, i_3, i_4, i_5, i_6, i_7, i_8, i_9, i_10, i_11, i_12, i_13, i_14, i_15, i_16, i_17, i_18, i_19, i_20, i_21, i_22, i_23, i_24, i_25, i_26, i_27, i_28, i_29, i_30, i_31, i_32, i_33, i_34, i_35, i_36, i_37, i_38, i_39, i_40, i_41, i_42, i_43, i_44, i_45, i_46, i_47, i_48, i_49, i_50, i_51, i_52, i_53, i_54, i_55, i_56, i_57, i_58, i_59, i_60, i_61, i_62, i_63, i_91, i_93, i_97, i_98, i_99, i_100, i_101, i_102, i_103, i_104, i_122, i_150, i_200, i_255, i_305, i_600, i_729, i_999, i_1365, i_12345, i_32767, i_65536, i_100000, i_1000000, i_1103515245, zlet_eq, zbind_some, zbindv_some, ofN_nI, nI_add, pk_mul, nI_sub', nI_addg, gg_sub, nI_cl', zix_nI, rf_116_9, rf_116_10, rf_116_11, rf_116_12, rf_116_13, rf_116_14, rf_116_15, rf_116_16, rf_116_17, rf_116_18, rf_116_19, rf_116_20, rf_116_21, rf_116_22, rf_116_23, rf_116_24, rf_116_28, rf_116_29, rf_116_30, rf_116_31, rf_116_32, rf_116_33, rf_116_34, rf_116_35, rf_116_36, rf_116_37, rf_116_38, rf_116_39, rf_116_43, rf_116_49, rf_116_51, rf_116_54, rf_116_55, rf_116_56, rf_116_59, ln_127, ln_144, ln_161, ln_174, ln_187, ln_200, ln_213, ln_374, ln_535, ln_548, ln_561, ln_572, ln_577, ln_582, ln_117, ln_118, ln_119, ln_120, ln_121, ln_122, ln_123, ln_124, ln_125, ln_126, ln_565, ln_566, ln_567, ln_568, ln_569, ln_570, ln_571, ln_576, ln_600, ln_601, ln_602, ln_603, hM, nI_eq']
    rw [if_pos (Int32.le_refl _)]
    unfold sPairO
    by_cases c0 : what = 0
    · rw [if_pos c0, if_pos c0]
    · rw [if_neg c0, if_neg c0]
      by_cases c1 : what = 1
      · rw [if_pos c1, if_pos c1]
      · rw [if_neg c1, if_neg c1]
  · show fX10_pair_40 (n + 1) 116 (nI what) (oI s.1) (oI s.2.1) (oI s.2.2) (nI j) v = fX10_pair_40 n 116 (nI what) (oI (sPrL α ρ j s).1) (oI (sPrL α ρ j s).2.1) (oI (sPrL α ρ j s).2.2) (nI (j + 1)) v
    rw [fX10_pair_40]
    dsimp only
    simp (disch := omega) only [↓reduceIte, i_0, i_1, i_2, i_3, i_4, i_5, i_6, i_7, i_8, i_9, i_10, i_11, i_12, i_13, i_14, i_15, i_16, i_17, i_18, i_19, i_20, i_21, i_22, i_23, i_24, i_25, i_26, i_27, i_28, i_29, i_30, i_31, i_32, i_33, i_34, i_35, i_36, i_37, i_38, i_39, i_40, i_41, i_42, i_43, i_44, i_45, i_46, i_47, i_48, i_49, i_50, i_51, i_52, i_53, i_54, i_55, i_56, i_57, i_58, i_59, i_60, i_61, i_62, i_63, i_91, i_93, i_97, i_98, i_99, i_100, i_101, i_102, i_103, i_104, i_122, i_150, i_200, i_255, i_305, i_600, i_729, i_999, i_1365, i_12345, i_32767, i_65536, i_100000, i_1000000, i_1103515245, zlet_eq, zbind_some, zbindv_some, ofN_nI, nI_add, pk_mul, nI_sub', nI_addg, gg_sub, nI_cl', zix_nI, rf_116_9, rf_116_10, rf_116_11, rf_116_12, rf_116_13, rf_116_14, rf_116_15, rf_116_16, rf_116_17, rf_116_18, rf_116_19, rf_116_20, rf_116_21, rf_116_22, rf_116_23, rf_116_24, rf_116_28, rf_116_29, rf_116_30, rf_116_31, rf_116_32, rf_116_33, rf_116_34, rf_116_35, rf_116_36, rf_116_37, rf_116_38, rf_116_39, rf_116_43, rf_116_49, rf_116_51, rf_116_54, rf_116_55, rf_116_56, rf_116_59, ln_127, ln_144, ln_161, ln_174, ln_187, ln_200, ln_213, ln_374, ln_535, ln_548, ln_561, ln_572, ln_577, ln_582, ln_117, ln_118, ln_119, ln_120, ln_121, ln_122, ln_123, ln_124, ln_125, ln_126, ln_565, ln_566, ln_567, ln_568, ln_569, ln_570, ln_571, ln_576, ln_600, ln_601, ln_602, ln_603, hM]
    rw [if_neg (nI_ge hj (by omega))]
    exact p_mPairI h hb _ _ hj s hs
/-! KIN -/
def sKinS (α : sA) (ρ : sR) (c o : Nat) (b : Bool) : Bool := b && !decide (sDf α ((sCh ρ).getD c 0) ((sCh ρ).getD o 0) = 0)
def sKinL (α : sA) (ρ : sR) (c : Nat) (n : Nat) : Nat := n + if zit (sKinS α ρ c) c 0 true = true then 1 else 0
def sKin (α : sA) (ρ : sR) : Nat := zit (sKinL α ρ) (sCh ρ).length 0 0
def bI (b : Bool) : Int32 := if b = true then nI 1 else nI 0
theorem sDf_cm (α : sA) (a b : Nat) : sDf α a b = sDf α b a := by
  unfold sDf
  exact zcnt_cg _ (fun k _ => by simp only [ne_comm])
theorem p_kinI {v : zV} {α : sA} {ρ : sR} (h : eqC v α ρ) (hb : bdC α ρ) (K : Nat → Int32 → Int32 → zV → Option (Int32 × zV)) (x : Nat) {c : Nat} (hc : c < (sCh ρ).length) : fX3_unlikeRows_20 K zFU 96 (nI x) (nI c) 1 0 v = K 96 (nI (sKinL α ρ c x)) (nI (c + 1)) v := by
  obtain ⟨hM, hl, hch, hal, hwt, hdf, hsm, hsd⟩ := h
  obtain ⟨⟨b1, b2, b3⟩, bch, bst, bdf, bbl⟩ := hb
  refine lpE (fun n j (b : Bool) => fX3_unlikeRows_20 K n 96 (nI x) (nI c) (bI b) (nI j) v) (sKinS α ρ c) c (fun b => K 96 (nI (x + if b = true then 1 else 0)) (nI (c + 1)) v) (fun n b => ?_) (fun n j b hj => ?_) c zFU 0 true (Nat.zero_add _) (by unfold zFU; omega)
  · show fX3_unlikeRows_20 K (n + 1) 96 (nI x) (nI c) (bI b) (nI c) v = _
    rw [fX3_unlikeRows_20]
    dsimp only
    rw [if_pos (Int32.le_refl _)]
    cases b with
    | true =>
      rw [if_neg (show ¬ bI true = 0 by decide)]
      simp only [i_0, i_1, nI_add]
      rfl
    | false =>
      rw [if_pos (show bI false = 0 from rfl)]
      simp only [i_0, i_1, nI_add]
      rfl
  · show fX3_unlikeRows_20 K (n + 1) 96 (nI x) (nI c) (bI b) (nI j) v = fX3_unlikeRows_20 K n 96 (nI x) (nI c) (bI (sKinS α ρ c j b)) (nI (j + 1)) v
    have c1 := hch j (by omega)
    have c2 := hch c hc
    have s1 := hsm _ _ (bch j (by omega)) (bch c hc)
    have e2 := sDf_cm α ((sCh ρ).getD j 0) ((sCh ρ).getD c 0)
    rw [fX3_unlikeRows_20]
    dsimp only
    rw [if_neg (nI_ge hj (by omega))]
    unfold sKinS
    cases b with
    | false =>
      rw [if_pos (show bI false = 0 from rfl), nI_1]
      rfl
    | true =>
      rw [if_neg (show ¬ bI true = 0 by decide)]
      simp (disch := omega) only [↓reduceIte, i_0, i_1, i_2, i_3, i_4, i_5, i_6, i_7, i_8, i_9, i_10, i_11, i_12, i_13, i_14, i_15, i_16, i_17, i_18, i_19, i_20, i_21, i_22, i_23, i_24, i_25, i_26, i_27, i_28, i_29, i_30, i_31, i_32, i_33, i_34, i_35, i_36, i_37, i_38, i_39, i_40, i_41, i_42, i_43, i_44, i_45, i_46, i_47, i_48, i_49, i_50, i_51, i_52, i_53, i_54, i_55, i_56, i_57, i_58, i_59, i_60, i_61, i_62, i_63, i_91, i_93, i_97, i_98, i_99, i_100, i_101, i_102, i_103, i_104, i_122, i_150, i_200, i_255, i_305, i_600, i_729, i_999, i_1365, i_12345, i_32767, i_65536, i_100000, i_1000000, i_1103515245, zlet_eq, zbind_some, zbindv_some, ofN_nI, nI_add, pk_mul, nI_sub', nI_addg, gg_sub, nI_cl', zix_nI, rf_96_0, rf_96_1, rf_96_2, ln_97, c1, c2, s1, zb_eq]
      by_cases e : sDf α ((sCh ρ).getD j 0) ((sCh ρ).getD c 0) = 0
      · rw [if_neg (fun q => q e)]
        rw [e2] at e
        have hb0 : (true && !decide (sDf α ((sCh ρ).getD c 0) ((sCh ρ).getD j 0) = 0)) = false := by rw [decide_eq_true e]; rfl
        rw [hb0]
        rfl
      · rw [if_pos e]
        rw [e2] at e
        have hb0 : (true && !decide (sDf α ((sCh ρ).getD c 0) ((sCh ρ).getD j 0) = 0)) = true := by rw [decide_eq_false e]; rfl
        rw [hb0]
        rfl
theorem p_kin {v : zV} {α : sA} {ρ : sR} (h : eqC v α ρ) (hb : bdC α ρ) : fX3_unlikeRows 96 v = some (nI (sKin α ρ), v) := by
  have hl := h.2.1
  have b3 := hb.1.2.2
  unfold fX3_unlikeRows
  refine lpE (fun n j (x : Nat) => fX3_unlikeRows_4 n 96 (nI x) (nI j) v) (sKinL α ρ) (sCh ρ).length (fun x => some (nI x, v)) (fun n x => ?_) (fun n j x hj => ?_) (sCh ρ).length zFU 0 0 (Nat.zero_add _) (by unfold zFU; omega)
  · show fX3_unlikeRows_4 (n + 1) 96 (nI x) (nI (sCh ρ).length) v = _
    rw [fX3_unlikeRows_4]
    dsimp only
    rw [rf_96_1, hl, if_pos (Int32.le_refl _)]
  · show fX3_unlikeRows_4 (n + 1) 96 (nI x) (nI j) v = fX3_unlikeRows_4 n 96 (nI (sKinL α ρ j x)) (nI (j + 1)) v
    rw [fX3_unlikeRows_4]
    dsimp only
    rw [rf_96_1, hl, if_neg (nI_ge hj (by omega))]
    exact p_kinI h hb _ x hj
theorem p_mKinI {v : zV} {α : sA} {ρ : sR} (h : eqM v α ρ) (hb : bdC α ρ) (K : Nat → Int32 → Int32 → zV → Option (Int32 × zV)) (x : Nat) {c : Nat} (hc : c < (sCh ρ).length) : fX10_kin_25 K zFU 116 (nI x) (nI c) 1 0 v = K 116 (nI (sKinL α ρ c x)) (nI (c + 1)) v := by
  obtain ⟨hM, hl, hch, hst, hdf, hbl⟩ := h
  obtain ⟨⟨b1, b2, b3⟩, bch, bst, bdf, bbl⟩ := hb
  refine lpE (fun n j (b : Bool) => fX10_kin_25 K n 116 (nI x) (nI c) (bI b) (nI j) v) (sKinS α ρ c) c (fun b => K 116 (nI (x + if b = true then 1 else 0)) (nI (c + 1)) v) (fun n b => ?_) (fun n j b hj => ?_) c zFU 0 true (Nat.zero_add _) (by unfold zFU; omega)
  · show fX10_kin_25 K (n + 1) 116 (nI x) (nI c) (bI b) (nI c) v = _
    rw [fX10_kin_25]
    dsimp only
    rw [if_pos (Int32.le_refl _)]
    cases b with
    | true =>
      rw [if_neg (show ¬ bI true = 0 by decide)]
      simp only [i_0, i_1, nI_add]
      rfl
    | false =>
      rw [if_pos (show bI false = 0 from rfl)]
      simp only [i_0, i_1, nI_add]
      rfl
  · show fX10_kin_25 K (n + 1) 116 (nI x) (nI c) (bI b) (nI j) v = fX10_kin_25 K n 116 (nI x) (nI c) (bI (sKinS α ρ c j b)) (nI (j + 1)) v
    have c1 := hch j (by omega)
    have c2 := hch c hc
    have s1 := hdf _ _ (bch c hc) (bch j (by omega))
    have d1 := bdf ((sCh ρ).getD c 0) ((sCh ρ).getD j 0)
    rw [fX10_kin_25]
    dsimp only
    rw [if_neg (nI_ge hj (by omega))]
    unfold sKinS
    cases b with
    | false =>
      rw [if_pos (show bI false = 0 from rfl), nI_1]
      rfl
    | true =>
      rw [if_neg (show ¬ bI true = 0 by decide)]
      simp (disch := omega) only [↓reduceIte, i_0, i_1, i_2, i_3, i_4, i_5, i_6, i_7, i_8, i_9, i_10, i_11, i_12, i_13, i_14, i_15, i_16, i_17, i_18, i_19, i_20, i_21, i_22, i_23, i_24, i_25, i_26, i_27, i_28, i_29, i_30, i_31, i_32, i_33, i_34, i_35, i_36, i_37, i_38, i_39, i_40, i_41, i_42, i_43, i_44, i_45, i_46, i_47, i_48, i_49, i_50, i_51, i_52, i_53, i_54, i_55, i_56, i_57, i_58, i_59, i_60, i_61, i_62, i_63, i_91, i_93, i_97, i_98, i_99, i_100, i_101, i_102, i_103, i_104, i_122, i_150, i_200, i_255, i_305, i_600, i_729, i_999, i_1365, i_12345, i_32767, i_65536, i_100000, i_1000000, i_1103515245, zlet_eq, zbind_some, zbindv_some, ofN_nI, nI_add, pk_mul, nI_sub', nI_addg, gg_sub, nI_cl', zix_nI, rf_116_9, rf_116_10, rf_116_11, rf_116_12, rf_116_13, rf_116_14, rf_116_15, rf_116_16, rf_116_17, rf_116_18, rf_116_19, rf_116_20, rf_116_21, rf_116_22, rf_116_23, rf_116_24, rf_116_28, rf_116_29, rf_116_30, rf_116_31, rf_116_32, rf_116_33, rf_116_34, rf_116_35, rf_116_36, rf_116_37, rf_116_38, rf_116_39, rf_116_43, rf_116_49, rf_116_51, rf_116_54, rf_116_55, rf_116_56, rf_116_59, ln_127, ln_144, ln_161, ln_174, ln_187, ln_200, ln_213, ln_374, ln_535, ln_548, ln_561, ln_572, ln_577, ln_582, ln_117, ln_118, ln_119, ln_120, ln_121, ln_122, ln_123, ln_124, ln_125, ln_126, ln_565, ln_566, ln_567, ln_568, ln_569, ln_570, ln_571, ln_576, ln_600, ln_601, ln_602, ln_603, c1, c2, s1, nI_le']
      by_cases e : sDf α ((sCh ρ).getD c 0) ((sCh ρ).getD j 0) = 0
      · have hb0 : (true && !decide (sDf α ((sCh ρ).getD c 0) ((sCh ρ).getD j 0) = 0)) = false := by rw [decide_eq_true e]; rfl
        rw [if_pos (by omega), hb0]
        rfl
      · have hb0 : (true && !decide (sDf α ((sCh ρ).getD c 0) ((sCh ρ).getD j 0) = 0)) = true := by rw [decide_eq_false e]; rfl
        rw [if_neg (by omega), hb0]
        rfl
theorem p_mKin {v : zV} {α : sA} {ρ : sR} (h : eqM v α ρ) (hb : bdC α ρ) : fX10_kin_9 zFU 116 0 0 v = some (nI (sKin α ρ), v) := by
  have hl := h.2.1
  have b3 := hb.1.2.2
  refine lpE (fun n j (x : Nat) => fX10_kin_9 n 116 (nI x) (nI j) v) (sKinL α ρ) (sCh ρ).length (fun x => some (nI x, v)) (fun n x => ?_) (fun n j x hj => ?_) (sCh ρ).length zFU 0 0 (Nat.zero_add _) (by unfold zFU; omega)
  · show fX10_kin_9 (n + 1) 116 (nI x) (nI (sCh ρ).length) v = _
    rw [fX10_kin_9]
    dsimp only
    simp (disch := omega) only [↓reduceIte, i_0, i_1, i_2, i_3, i_4, i_5, i_6, i_7, i_8, i_9, i_10, i_11, i_12, i_13, i_14, i_15, i_16, i_17, i_18, i_19, i_20, i_21, i_22, i_23, i_24, i_25, i_26, i_27, i_28, i_29, i_30, i_31, i_32, i_33, i_34, i_35, i_36, i_37, i_38, i_39, i_40, i_41, i_42, i_43, i_44, i_45, i_46, i_47, i_48, i_49, i_50, i_51, i_52, i_53, i_54, i_55, i_56, i_57, i_58, i_59, i_60, i_61, i_62, i_63, i_91, i_93, i_97, i_98, i_99, i_100, i_101, i_102, i_103, i_104, i_122, i_150, i_200, i_255, i_305, i_600, i_729, i_999, i_1365, i_12345, i_32767, i_65536, i_100000, i_1000000, i_1103515245, zlet_eq, zbind_some, zbindv_some, ofN_nI, nI_add, pk_mul, nI_sub', nI_addg, gg_sub, nI_cl', zix_nI, rf_116_9, rf_116_10, rf_116_11, rf_116_12, rf_116_13, rf_116_14, rf_116_15, rf_116_16, rf_116_17, rf_116_18, rf_116_19, rf_116_20, rf_116_21, rf_116_22, rf_116_23, rf_116_24, rf_116_28, rf_116_29, rf_116_30, rf_116_31, rf_116_32, rf_116_33, rf_116_34, rf_116_35, rf_116_36, rf_116_37, rf_116_38, rf_116_39, rf_116_43, rf_116_49, rf_116_51, rf_116_54, rf_116_55, rf_116_56, rf_116_59, ln_127, ln_144, ln_161, ln_174, ln_187, ln_200, ln_213, ln_374, ln_535, ln_548, ln_561, ln_572, ln_577, ln_582, ln_117, ln_118, ln_119, ln_120, ln_121, ln_122, ln_123, ln_124, ln_125, ln_126, ln_565, ln_566, ln_567, ln_568, ln_569, ln_570, ln_571, ln_576, ln_600, ln_601, ln_602, ln_603, hl]
    rw [if_pos (Int32.le_refl _)]
  · show fX10_kin_9 (n + 1) 116 (nI x) (nI j) v = fX10_kin_9 n 116 (nI (sKinL α ρ j x)) (nI (j + 1)) v
    rw [fX10_kin_9]
    dsimp only
    simp (disch := omega) only [↓reduceIte, i_0, i_1, i_2, i_3, i_4, i_5, i_6, i_7, i_8, i_9, i_10, i_11, i_12, i_13, i_14, i_15, i_16, i_17, i_18, i_19, i_20, i_21, i_22, i_23, i_24, i_25, i_26, i_27, i_28, i_29, i_30, i_31, i_32, i_33, i_34, i_35, i_36, i_37, i_38, i_39, i_40, i_41, i_42, i_43, i_44, i_45, i_46, i_47, i_48, i_49, i_50, i_51, i_52, i_53, i_54, i_55, i_56, i_57, i_58, i_59, i_60, i_61, i_62, i_63, i_91, i_93, i_97, i_98, i_99, i_100, i_101, i_102, i_103, i_104, i_122, i_150, i_200, i_255, i_305, i_600, i_729, i_999, i_1365, i_12345, i_32767, i_65536, i_100000, i_1000000, i_1103515245, zlet_eq, zbind_some, zbindv_some, ofN_nI, nI_add, pk_mul, nI_sub', nI_addg, gg_sub, nI_cl', zix_nI, rf_116_9, rf_116_10, rf_116_11, rf_116_12, rf_116_13, rf_116_14, rf_116_15, rf_116_16, rf_116_17, rf_116_18, rf_116_19, rf_116_20, rf_116_21, rf_116_22, rf_116_23, rf_116_24, rf_116_28, rf_116_29, rf_116_30, rf_116_31, rf_116_32, rf_116_33, rf_116_34, rf_116_35, rf_116_36, rf_116_37, rf_116_38, rf_116_39, rf_116_43, rf_116_49, rf_116_51, rf_116_54, rf_116_55, rf_116_56, rf_116_59, ln_127, ln_144, ln_161, ln_174, ln_187, ln_200, ln_213, ln_374, ln_535, ln_548, ln_561, ln_572, ln_577, ln_582, ln_117, ln_118, ln_119, ln_120, ln_121, ln_122, ln_123, ln_124, ln_125, ln_126, ln_565, ln_566, ln_567, ln_568, ln_569, ln_570, ln_571, ln_576, ln_600, ln_601, ln_602, ln_603, hl]
    rw [if_neg (nI_ge hj (by omega))]
    exact p_mKinI h hb _ x hj
/-! MIDDLE -/
def sMidS (α : sA) (ρ : sR) (c o : Nat) (n : Nat) : Nat := n + sDf α ((sCh ρ).getD c 0) ((sCh ρ).getD o 0)
def sMidN (α : sA) (ρ : sR) (c : Nat) : Nat := zit (sMidS α ρ c) (sCh ρ).length 0 0
def sMidL (α : sA) (ρ : sR) (c : Nat) (s : Option Nat × Nat) : Option Nat × Nat := if s.1 = none ∨ sMidN α ρ c < s.2 then (some ((sCh ρ).getD c 0), sMidN α ρ c) else s
def sMiddle (α : sA) (ρ : sR) : Option Nat := (zit (sMidL α ρ) (sCh ρ).length 0 (none, 0)).1
theorem sMidN_le {α : sA} {ρ : sR} (b3 : (sCh ρ).length ≤ 12) (bdf : ∀ a b, sDf α a b ≤ 6) (c : Nat) : sMidN α ρ c ≤ 72 := by
  have := zit_inv (g := sMidS α ρ c) (fun j n => n ≤ 6 * j) (sCh ρ).length (fun j n _ hn => by
    have := bdf ((sCh ρ).getD c 0) ((sCh ρ).getD j 0)
    show n + sDf α ((sCh ρ).getD c 0) ((sCh ρ).getD j 0) ≤ _
    omega) (sCh ρ).length 0 0 (Nat.zero_add _) (Nat.le_refl _)
  have h2 : zit (sMidS α ρ c) (sCh ρ).length 0 0 ≤ 6 * (sCh ρ).length := this
  unfold sMidN
  omega
def okMid (α : sA) (s : Option Nat × Nat) : Prop := s.2 ≤ 72 ∧ ∀ m, s.1 = some m → m < α 0 1
theorem sMidL_ok {α : sA} {ρ : sR} (hb : bdC α ρ) {c : Nat} (hc : c < (sCh ρ).length) {s : Option Nat × Nat} (h : okMid α s) : okMid α (sMidL α ρ c s) := by
  unfold sMidL
  split
  · exact ⟨sMidN_le hb.1.2.2 hb.2.2.2.1 c, fun m hm => by cases hm; exact hb.2.1 c hc⟩
  · exact h
theorem p_midI {v : zV} {α : sA} {ρ : sR} (h : eqC v α ρ) (hb : bdC α ρ) (K : Nat → Int32 → Int32 → Int32 → zV → Option (Int32 × zV)) (s : Option Nat × Nat) (hs : okMid α s) {c : Nat} (hc : c < (sCh ρ).length) : fX3_mostMiddling_23 K zFU 96 (oI s.1) (nI s.2) (nI c) 0 0 v = K 96 (oI (sMidL α ρ c s).1) (nI (sMidL α ρ c s).2) (nI (c + 1)) v := by
  obtain ⟨hM, hl, hch, hal, hwt, hdf, hsm, hsd⟩ := h
  have hn := sMidN_le (α := α) (ρ := ρ) hb.1.2.2 hb.2.2.2.1 c
  obtain ⟨⟨b1, b2, b3⟩, bch, bst, bdf, bbl⟩ := hb
  have c2 := hch c hc
  refine (lpE (fun n j (x : Nat) => fX3_mostMiddling_23 K n 96 (oI s.1) (nI s.2) (nI c) (nI x) (nI j) v) (sMidS α ρ c) (sCh ρ).length (fun x => fX3_mostMiddling_70 K 96 (oI s.1) (nI s.2) (nI c) (nI x) v) (fun n x => ?_) (fun n j x hj => ?_) (sCh ρ).length zFU 0 0 (Nat.zero_add _) (by unfold zFU; omega)).trans ?_
  · show fX3_mostMiddling_23 K (n + 1) 96 (oI s.1) (nI s.2) (nI c) (nI x) (nI (sCh ρ).length) v = _
    rw [fX3_mostMiddling_23]
    dsimp only
    rw [rf_96_1, hl, if_pos (Int32.le_refl _)]
  · show fX3_mostMiddling_23 K (n + 1) 96 (oI s.1) (nI s.2) (nI c) (nI x) (nI j) v = fX3_mostMiddling_23 K n 96 (oI s.1) (nI s.2) (nI c) (nI (sMidS α ρ c j x)) (nI (j + 1)) v
    have c1 := hch j hj
    have s1 := hdf _ _ (bch c hc) (bch j hj)
    rw [fX3_mostMiddling_23]
    dsimp only
    simp (disch := omega) only [↓reduceIte, i_0, i_1, i_2, i_3, i_4, i_5, i_6, i_7, i_8, i_9, i_10, i_11, i_12, i_13, i_14, i_15, i_16, i_17, i_18, i_19, i_20, i_21, i_22, i_23, i_24, i_25, i_26, i_27, i_28, i_29, i_30, i_31, i_32, i_33, i_34, i_35, i_36, i_37, i_38, i_39, i_40, i_41, i_42, i_43, i_44, i_45, i_46, i_47, i_48, i_49, i_50, i_51, i_52, i_53, i_54, i_55, i_56, i_57, i_58, i_59, i_60, i_61, i_62, i_63, i_91, i_93, i_97, i_98, i_99, i_100, i_101, i_102, i_103, i_104, i_122, i_150, i_200, i_255, i_305, i_600, i_729, i_999, i_1365, i_12345, i_32767, i_65536, i_100000, i_1000000, i_1103515245, zlet_eq, zbind_some, zbindv_some, ofN_nI, nI_add, pk_mul, nI_sub', nI_addg, gg_sub, nI_cl', zix_nI, rf_96_0, rf_96_1, rf_96_2, ln_97, hl, c1, c2, s1]
    rw [if_neg (nI_ge hj (by omega))]
    rfl
  · show fX3_mostMiddling_70 K 96 (oI s.1) (nI s.2) (nI c) (nI (sMidN α ρ c)) v = _
    unfold fX3_mostMiddling_70 sMidL
    obtain ⟨s1, s2⟩ := s
    cases s1 with
    | none =>
      rw [if_pos (show oI (none : Option Nat) = (-1 : Int32) from rfl), if_pos (Or.inl rfl)]
      simp (disch := omega) only [↓reduceIte, i_0, i_1, i_2, i_3, i_4, i_5, i_6, i_7, i_8, i_9, i_10, i_11, i_12, i_13, i_14, i_15, i_16, i_17, i_18, i_19, i_20, i_21, i_22, i_23, i_24, i_25, i_26, i_27, i_28, i_29, i_30, i_31, i_32, i_33, i_34, i_35, i_36, i_37, i_38, i_39, i_40, i_41, i_42, i_43, i_44, i_45, i_46, i_47, i_48, i_49, i_50, i_51, i_52, i_53, i_54, i_55, i_56, i_57, i_58, i_59, i_60, i_61, i_62, i_63, i_91, i_93, i_97, i_98, i_99, i_100, i_101, i_102, i_103, i_104, i_122, i_150, i_200, i_255, i_305, i_600, i_729, i_999, i_1365, i_12345, i_32767, i_65536, i_100000, i_1000000, i_1103515245, zlet_eq, zbind_some, zbindv_some, ofN_nI, nI_add, pk_mul, nI_sub', nI_addg, gg_sub, nI_cl', zix_nI, rf_96_0, rf_96_1, rf_96_2, ln_97, c2]
      rfl
    | some m =>
      have hm := hs.2 m rfl
      have h72 : s2 ≤ 72 := hs.1
      rw [oI_some, if_neg (show ¬ nI m = -1 from fun q => by rw [show (-1 : Int32) = -nI 1 from rfl, ng_eq (by omega) (by decide) (by decide)] at q; exact q)]
      simp (disch := omega) only [↓reduceIte, i_0, i_1, i_2, i_3, i_4, i_5, i_6, i_7, i_8, i_9, i_10, i_11, i_12, i_13, i_14, i_15, i_16, i_17, i_18, i_19, i_20, i_21, i_22, i_23, i_24, i_25, i_26, i_27, i_28, i_29, i_30, i_31, i_32, i_33, i_34, i_35, i_36, i_37, i_38, i_39, i_40, i_41, i_42, i_43, i_44, i_45, i_46, i_47, i_48, i_49, i_50, i_51, i_52, i_53, i_54, i_55, i_56, i_57, i_58, i_59, i_60, i_61, i_62, i_63, i_91, i_93, i_97, i_98, i_99, i_100, i_101, i_102, i_103, i_104, i_122, i_150, i_200, i_255, i_305, i_600, i_729, i_999, i_1365, i_12345, i_32767, i_65536, i_100000, i_1000000, i_1103515245, zlet_eq, zbind_some, zbindv_some, ofN_nI, nI_add, pk_mul, nI_sub', nI_addg, gg_sub, nI_cl', zix_nI, rf_96_0, rf_96_1, rf_96_2, ln_97, c2, nI_le']
      by_cases e : s2 ≤ sMidN α ρ c
      · have hno : ¬ ((some m : Option Nat) = none ∨ sMidN α ρ c < s2) := fun q => by
          rcases q with q | q
          · cases q
          · omega
        rw [if_pos e, if_neg hno]
        rfl
      · have hyes : (some m : Option Nat) = none ∨ sMidN α ρ c < s2 := Or.inr (by omega)
        rw [if_neg e, if_pos hyes]
        rfl
theorem p_middle {v : zV} {α : sA} {ρ : sR} (h : eqC v α ρ) (hb : bdC α ρ) : fX3_mostMiddling 96 v = some (oI (sMiddle α ρ), v) := by
  have hl := h.2.1
  have b3 := hb.1.2.2
  unfold fX3_mostMiddling
  refine lpI (fun n j (s : Option Nat × Nat) => fX3_mostMiddling_6 n 96 (oI s.1) (nI s.2) (nI j) v) (sMidL α ρ) (sCh ρ).length (fun s => some (oI s.1, v)) (fun _ s => okMid α s) (fun n x _ => ?_) (fun n j x hj hs => ⟨?_, sMidL_ok hb hj hs⟩) (sCh ρ).length zFU 0 (none, 0) (Nat.zero_add _) (by unfold zFU; omega) ⟨by decide, fun m hm => by cases hm⟩
  · show fX3_mostMiddling_6 (n + 1) 96 (oI x.1) (nI x.2) (nI (sCh ρ).length) v = _
    rw [fX3_mostMiddling_6]
    dsimp only
    rw [rf_96_1, hl, if_pos (Int32.le_refl _)]
  · show fX3_mostMiddling_6 (n + 1) 96 (oI x.1) (nI x.2) (nI j) v = fX3_mostMiddling_6 n 96 (oI (sMidL α ρ j x).1) (nI (sMidL α ρ j x).2) (nI (j + 1)) v
    rw [fX3_mostMiddling_6]
    dsimp only
    rw [rf_96_1, hl, if_neg (nI_ge hj (by omega))]
    exact p_midI h hb _ x hs hj
theorem p_mMidI {v : zV} {α : sA} {ρ : sR} (h : eqM v α ρ) (hb : bdC α ρ) (K : Nat → Int32 → Int32 → Int32 → zV → Option (Int32 × zV)) (s : Option Nat × Nat) (hs : okMid α s) {c : Nat} (hc : c < (sCh ρ).length) : fX10_middle_28 K zFU 116 (oI s.1) (nI s.2) (nI c) 0 0 v = K 116 (oI (sMidL α ρ c s).1) (nI (sMidL α ρ c s).2) (nI (c + 1)) v := by
  obtain ⟨hM, hl, hch, hst, hdf, hbl⟩ := h
  have hn := sMidN_le (α := α) (ρ := ρ) hb.1.2.2 hb.2.2.2.1 c
  obtain ⟨⟨b1, b2, b3⟩, bch, bst, bdf, bbl⟩ := hb
  have c2 := hch c hc
  refine (lpE (fun n j (x : Nat) => fX10_middle_28 K n 116 (oI s.1) (nI s.2) (nI c) (nI x) (nI j) v) (sMidS α ρ c) (sCh ρ).length (fun x => fX10_middle_74 K 116 (oI s.1) (nI s.2) (nI c) (nI x) v) (fun n x => ?_) (fun n j x hj => ?_) (sCh ρ).length zFU 0 0 (Nat.zero_add _) (by unfold zFU; omega)).trans ?_
  · show fX10_middle_28 K (n + 1) 116 (oI s.1) (nI s.2) (nI c) (nI x) (nI (sCh ρ).length) v = _
    rw [fX10_middle_28]
    dsimp only
    simp (disch := omega) only [↓reduceIte, i_0, i_1, i_2, i_3, i_4, i_5, i_6, i_7, i_8, i_9, i_10, i_11, i_12, i_13, i_14, i_15, i_16, i_17, i_18, i_19, i_20, i_21, i_22, i_23, i_24, i_25, i_26, i_27, i_28, i_29, i_30, i_31, i_32, i_33, i_34, i_35, i_36, i_37, i_38, i_39, i_40, i_41, i_42, i_43, i_44, i_45, i_46, i_47, i_48, i_49, i_50, i_51, i_52, i_53, i_54, i_55, i_56, i_57, i_58, i_59, i_60, i_61, i_62, i_63, i_91, i_93, i_97, i_98, i_99, i_100, i_101, i_102, i_103, i_104, i_122, i_150, i_200, i_255, i_305, i_600, i_729, i_999, i_1365, i_12345, i_32767, i_65536, i_100000, i_1000000, i_1103515245, zlet_eq, zbind_some, zbindv_some, ofN_nI, nI_add, pk_mul, nI_sub', nI_addg, gg_sub, nI_cl', zix_nI, rf_116_9, rf_116_10, rf_116_11, rf_116_12, rf_116_13, rf_116_14, rf_116_15, rf_116_16, rf_116_17, rf_116_18, rf_116_19, rf_116_20, rf_116_21, rf_116_22, rf_116_23, rf_116_24, rf_116_28, rf_116_29, rf_116_30, rf_116_31, rf_116_32, rf_116_33, rf_116_34, rf_116_35, rf_116_36, rf_116_37, rf_116_38, rf_116_39, rf_116_43, rf_116_49, rf_116_51, rf_116_54, rf_116_55, rf_116_56, rf_116_59, ln_127, ln_144, ln_161, ln_174, ln_187, ln_200, ln_213, ln_374, ln_535, ln_548, ln_561, ln_572, ln_577, ln_582, ln_117, ln_118, ln_119, ln_120, ln_121, ln_122, ln_123, ln_124, ln_125, ln_126, ln_565, ln_566, ln_567, ln_568, ln_569, ln_570, ln_571, ln_576, ln_600, ln_601, ln_602, ln_603, hl]
    rw [if_pos (Int32.le_refl _)]
  · show fX10_middle_28 K (n + 1) 116 (oI s.1) (nI s.2) (nI c) (nI x) (nI j) v = fX10_middle_28 K n 116 (oI s.1) (nI s.2) (nI c) (nI (sMidS α ρ c j x)) (nI (j + 1)) v
    have c1 := hch j hj
    have s1 := hdf _ _ (bch c hc) (bch j hj)
    rw [fX10_middle_28]
    dsimp only
    simp (disch := omega) only [↓reduceIte, i_0, i_1, i_2, i_3, i_4, i_5, i_6, i_7, i_8, i_9, i_10, i_11, i_12, i_13, i_14, i_15, i_16, i_17, i_18, i_19, i_20, i_21, i_22, i_23, i_24, i_25, i_26, i_27, i_28, i_29, i_30, i_31, i_32, i_33, i_34, i_35, i_36, i_37, i_38, i_39, i_40, i_41, i_42, i_43, i_44, i_45, i_46, i_47, i_48, i_49, i_50, i_51, i_52, i_53, i_54, i_55, i_56, i_57, i_58, i_59, i_60, i_61, i_62, i_63, i_91, i_93, i_97, i_98, i_99, i_100, i_101, i_102, i_103, i_104, i_122, i_150, i_200, i_255, i_305, i_600, i_729, i_999, i_1365, i_12345, i_32767, i_65536, i_100000, i_1000000, i_1103515245, zlet_eq, zbind_some, zbindv_some, ofN_nI, nI_add, pk_mul, nI_sub', nI_addg, gg_sub, nI_cl', zix_nI, rf_116_9, rf_116_10, rf_116_11, rf_116_12, rf_116_13, rf_116_14, rf_116_15, rf_116_16, rf_116_17, rf_116_18, rf_116_19, rf_116_20, rf_116_21, rf_116_22, rf_116_23, rf_116_24, rf_116_28, rf_116_29, rf_116_30, rf_116_31, rf_116_32, rf_116_33, rf_116_34, rf_116_35, rf_116_36, rf_116_37, rf_116_38, rf_116_39, rf_116_43, rf_116_49, rf_116_51, rf_116_54, rf_116_55, rf_116_56, rf_116_59, ln_127, ln_144, ln_161, ln_174, ln_187, ln_200, ln_213, ln_374, ln_535, ln_548, ln_561, ln_572, ln_577, ln_582, ln_117, ln_118, ln_119, ln_120, ln_121, ln_122, ln_123, ln_124, ln_125, ln_126, ln_565, ln_566, ln_567, ln_568, ln_569, ln_570, ln_571, ln_576, ln_600, ln_601, ln_602, ln_603, hl, c1, c2, s1]
    rw [if_neg (nI_ge hj (by omega))]
    rfl
  · show fX10_middle_74 K 116 (oI s.1) (nI s.2) (nI c) (nI (sMidN α ρ c)) v = _
    unfold fX10_middle_74 sMidL
    obtain ⟨s1, s2⟩ := s
    cases s1 with
    | none =>
      rw [if_pos (show oI (none : Option Nat) = (-1 : Int32) from rfl), if_pos (Or.inl rfl)]
      simp (disch := omega) only [↓reduceIte, i_0, i_1, i_2, i_3, i_4, i_5, i_6, i_7, i_8, i_9, i_10, i_11, i_12, i_13, i_14, i_15, i_16, i_17, i_18, i_19, i_20, i_21, i_22, i_23, i_24, i_25, i_26, i_27, i_28, i_29, i_30, i_31, i_32, i_33, i_34, i_35, i_36, i_37, i_38, i_39, i_40, i_41, i_42, i_43, i_44, i_45, i_46, i_47, i_48, i_49, i_50, i_51, i_52, i_53, i_54, i_55, i_56, i_57, i_58, i_59, i_60, i_61, i_62, i_63, i_91, i_93, i_97, i_98, i_99, i_100, i_101, i_102, i_103, i_104, i_122, i_150, i_200, i_255, i_305, i_600, i_729, i_999, i_1365, i_12345, i_32767, i_65536, i_100000, i_1000000, i_1103515245, zlet_eq, zbind_some, zbindv_some, ofN_nI, nI_add, pk_mul, nI_sub', nI_addg, gg_sub, nI_cl', zix_nI, rf_116_9, rf_116_10, rf_116_11, rf_116_12, rf_116_13, rf_116_14, rf_116_15, rf_116_16, rf_116_17, rf_116_18, rf_116_19, rf_116_20, rf_116_21, rf_116_22, rf_116_23, rf_116_24, rf_116_28, rf_116_29, rf_116_30, rf_116_31, rf_116_32, rf_116_33, rf_116_34, rf_116_35, rf_116_36, rf_116_37, rf_116_38, rf_116_39, rf_116_43, rf_116_49, rf_116_51, rf_116_54, rf_116_55, rf_116_56, rf_116_59, ln_127, ln_144, ln_161, ln_174, ln_187, ln_200, ln_213, ln_374, ln_535, ln_548, ln_561, ln_572, ln_577, ln_582, ln_117, ln_118, ln_119, ln_120, ln_121, ln_122, ln_123, ln_124, ln_125, ln_126, ln_565, ln_566, ln_567, ln_568, ln_569, ln_570, ln_571, ln_576, ln_600, ln_601, ln_602, ln_603, c2]
      rfl
    | some m =>
      have hm := hs.2 m rfl
      have h72 : s2 ≤ 72 := hs.1
      rw [oI_some, if_neg (show ¬ nI m = -1 from fun q => by rw [show (-1 : Int32) = -nI 1 from rfl, ng_eq (by omega) (by decide) (by decide)] at q; exact q)]
      simp (disch := omega) only [↓reduceIte, i_0, i_1, i_2, i_3, i_4, i_5, i_6, i_7, i_8, i_9, i_10, i_11, i_12, i_13, i_14, i_15, i_16, i_17, i_18, i_19, i_20, i_21, i_22, i_23, i_24, i_25, i_26, i_27, i_28, i_29, i_30, i_31, i_32, i_33, i_34, i_35, i_36, i_37, i_38, i_39, i_40, i_41, i_42, i_43, i_44, i_45, i_46, i_47, i_48, i_49, i_50, i_51, i_52, i_53, i_54, i_55, i_56, i_57, i_58, i_59, i_60, i_61, i_62, i_63, i_91, i_93, i_97, i_98, i_99, i_100, i_101, i_102, i_103, i_104, i_122, i_150, i_200, i_255, i_305, i_600, i_729, i_999, i_1365, i_12345, i_32767, i_65536, i_100000, i_1000000, i_1103515245, zlet_eq, zbind_some, zbindv_some, ofN_nI, nI_add, pk_mul, nI_sub', nI_addg, gg_sub, nI_cl', zix_nI, rf_116_9, rf_116_10, rf_116_11, rf_116_12, rf_116_13, rf_116_14, rf_116_15, rf_116_16, rf_116_17, rf_116_18, rf_116_19, rf_116_20, rf_116_21, rf_116_22, rf_116_23, rf_116_24, rf_116_28, rf_116_29, rf_116_30, rf_116_31, rf_116_32, rf_116_33, rf_116_34, rf_116_35, rf_116_36, rf_116_37, rf_116_38, rf_116_39, rf_116_43, rf_116_49, rf_116_51, rf_116_54, rf_116_55, rf_116_56, rf_116_59, ln_127, ln_144, ln_161, ln_174, ln_187, ln_200, ln_213, ln_374, ln_535, ln_548, ln_561, ln_572, ln_577, ln_582, ln_117, ln_118, ln_119, ln_120, ln_121, ln_122, ln_123, ln_124, ln_125, ln_126, ln_565, ln_566, ln_567, ln_568, ln_569, ln_570, ln_571, ln_576, ln_600, ln_601, ln_602, ln_603, c2, nI_lt']
      by_cases e : s2 ≤ sMidN α ρ c
      · have hno : ¬ ((some m : Option Nat) = none ∨ sMidN α ρ c < s2) := fun q => by
          rcases q with q | q
          · cases q
          · omega
        rw [if_neg (by omega), if_neg hno]
        rfl
      · have hyes : (some m : Option Nat) = none ∨ sMidN α ρ c < s2 := Or.inr (by omega)
        rw [if_pos (by omega), if_pos hyes]
        rfl
theorem p_mMiddle {v : zV} {α : sA} {ρ : sR} (h : eqM v α ρ) (hb : bdC α ρ) : fX10_middle_11 zFU 116 (-1) 0 0 v = some (oI (sMiddle α ρ), v) := by
  have hl := h.2.1
  have b3 := hb.1.2.2
  refine lpI (fun n j (s : Option Nat × Nat) => fX10_middle_11 n 116 (oI s.1) (nI s.2) (nI j) v) (sMidL α ρ) (sCh ρ).length (fun s => some (oI s.1, v)) (fun _ s => okMid α s) (fun n x _ => ?_) (fun n j x hj hs => ⟨?_, sMidL_ok hb hj hs⟩) (sCh ρ).length zFU 0 (none, 0) (Nat.zero_add _) (by unfold zFU; omega) ⟨by decide, fun m hm => by cases hm⟩
  · show fX10_middle_11 (n + 1) 116 (oI x.1) (nI x.2) (nI (sCh ρ).length) v = _
    rw [fX10_middle_11]
    dsimp only
    simp (disch := omega) only [↓reduceIte, i_0, i_1, i_2, i_3, i_4, i_5, i_6, i_7, i_8, i_9, i_10, i_11, i_12, i_13, i_14, i_15, i_16, i_17, i_18, i_19, i_20, i_21, i_22, i_23, i_24, i_25, i_26, i_27, i_28, i_29, i_30, i_31, i_32, i_33, i_34, i_35, i_36, i_37, i_38, i_39, i_40, i_41, i_42, i_43, i_44, i_45, i_46, i_47, i_48, i_49, i_50, i_51, i_52, i_53, i_54, i_55, i_56, i_57, i_58, i_59, i_60, i_61, i_62, i_63, i_91, i_93, i_97, i_98, i_99, i_100, i_101, i_102, i_103, i_104, i_122, i_150, i_200, i_255, i_305, i_600, i_729, i_999, i_1365, i_12345, i_32767, i_65536, i_100000, i_1000000, i_1103515245, zlet_eq, zbind_some, zbindv_some, ofN_nI, nI_add, pk_mul, nI_sub', nI_addg, gg_sub, nI_cl', zix_nI, rf_116_9, rf_116_10, rf_116_11, rf_116_12, rf_116_13, rf_116_14, rf_116_15, rf_116_16, rf_116_17, rf_116_18, rf_116_19, rf_116_20, rf_116_21, rf_116_22, rf_116_23, rf_116_24, rf_116_28, rf_116_29, rf_116_30, rf_116_31, rf_116_32, rf_116_33, rf_116_34, rf_116_35, rf_116_36, rf_116_37, rf_116_38, rf_116_39, rf_116_43, rf_116_49, rf_116_51, rf_116_54, rf_116_55, rf_116_56, rf_116_59, ln_127, ln_144, ln_161, ln_174, ln_187, ln_200, ln_213, ln_374, ln_535, ln_548, ln_561, ln_572, ln_577, ln_582, ln_117, ln_118, ln_119, ln_120, ln_121, ln_122, ln_123, ln_124, ln_125, ln_126, ln_565, ln_566, ln_567, ln_568, ln_569, ln_570, ln_571, ln_576, ln_600, ln_601, ln_602, ln_603, hl]
    rw [if_pos (Int32.le_refl _)]
  · show fX10_middle_11 (n + 1) 116 (oI x.1) (nI x.2) (nI j) v = fX10_middle_11 n 116 (oI (sMidL α ρ j x).1) (nI (sMidL α ρ j x).2) (nI (j + 1)) v
    rw [fX10_middle_11]
    dsimp only
    simp (disch := omega) only [↓reduceIte, i_0, i_1, i_2, i_3, i_4, i_5, i_6, i_7, i_8, i_9, i_10, i_11, i_12, i_13, i_14, i_15, i_16, i_17, i_18, i_19, i_20, i_21, i_22, i_23, i_24, i_25, i_26, i_27, i_28, i_29, i_30, i_31, i_32, i_33, i_34, i_35, i_36, i_37, i_38, i_39, i_40, i_41, i_42, i_43, i_44, i_45, i_46, i_47, i_48, i_49, i_50, i_51, i_52, i_53, i_54, i_55, i_56, i_57, i_58, i_59, i_60, i_61, i_62, i_63, i_91, i_93, i_97, i_98, i_99, i_100, i_101, i_102, i_103, i_104, i_122, i_150, i_200, i_255, i_305, i_600, i_729, i_999, i_1365, i_12345, i_32767, i_65536, i_100000, i_1000000, i_1103515245, zlet_eq, zbind_some, zbindv_some, ofN_nI, nI_add, pk_mul, nI_sub', nI_addg, gg_sub, nI_cl', zix_nI, rf_116_9, rf_116_10, rf_116_11, rf_116_12, rf_116_13, rf_116_14, rf_116_15, rf_116_16, rf_116_17, rf_116_18, rf_116_19, rf_116_20, rf_116_21, rf_116_22, rf_116_23, rf_116_24, rf_116_28, rf_116_29, rf_116_30, rf_116_31, rf_116_32, rf_116_33, rf_116_34, rf_116_35, rf_116_36, rf_116_37, rf_116_38, rf_116_39, rf_116_43, rf_116_49, rf_116_51, rf_116_54, rf_116_55, rf_116_56, rf_116_59, ln_127, ln_144, ln_161, ln_174, ln_187, ln_200, ln_213, ln_374, ln_535, ln_548, ln_561, ln_572, ln_577, ln_582, ln_117, ln_118, ln_119, ln_120, ln_121, ln_122, ln_123, ln_124, ln_125, ln_126, ln_565, ln_566, ln_567, ln_568, ln_569, ln_570, ln_571, ln_576, ln_600, ln_601, ln_602, ln_603, hl]
    rw [if_neg (nI_ge hj (by omega))]
    exact p_mMidI h hb _ x hs hj
end
