/-! the reference: whoever is chosen, deaths, a year -/
section
theorem okW_hp {α : sA} {n : Nat} {ρ : sR} (h : okW α n ρ) (k : Nat → Nat → Int32) : okW α n (sHp ρ k) := h
theorem p_mChosen {α : sA} {l : sL} (ha : okA α) (hl : okL l) {v : zV} (hE : pME v α l) {h : Nat → Nat → Int32} (hh : HP v h) {r : Nat} (hr : rowM r) {ρ : sR} (hR : MR r v ρ) {n : Nat} (hn : n ≤ 13) (ho : okW α n ρ) : ∃ w, fX10_chosen 116 r v = some (oI (sChoose α (sHp ρ h) (sScore α l (sHp ρ h))), w) ∧ onlyK v w := by
  have hoC := okW_C ha hn ho
  have h13 := hoC.1
  have hM := ha.1.2.1
  have hlr := hr.1
  have h61 := hR.1.1
  have h120 := hE.1.1 1 (by decide)
  have hr5 := hr.2.1
  have hr566 := hr.2.2.2.1
  have hr565 := hr.2.2.1
  have hSco : ∀ {w : zV} {m : Nat}, onlyK v w → m < α 0 1 → ∃ u, fX10_scoreOf 116 r (nI m) w = some (sScore α l (sHp ρ h) m, u) ∧ onlyK v u := by
    intro w m hw hm
    obtain ⟨u, hu, huk⟩ := p_mScore ha hl (ME_K ha hl hE hw) (HP_fr hh (by rw [hw 116 (by decide) (by decide)]) (fun a h1 h2 => hw a (by omega) (by omega))) hr (MR_fr hR (hw r hr565 hr566)) hn ho hm
    exact ⟨u, hu, fun a h1 h2 => (huk a h1 h2).trans (hw a h1 h2)⟩
  unfold fX10_chosen sChoose
  generalize sScore α l (sHp ρ h) = sc at hSco ⊢
  rcases Nat.eq_zero_or_pos (sCh ρ).length with h0 | h0
  · rw [if_pos (show (sCh (sHp ρ h)).length = 0 from h0)]
    have h61' : v r 61 = nI 0 := by rw [h61, h0]
    have := lpI (fun n j (e : Option Nat) => fX10_chosen_7 n 116 r (oI e) 0 (nI j) v) (sEldS α ρ) (α 0 1) (fun e => some (oI e, v)) (fun j e => ∀ m, e = some m → m < α 0 1) (fun n s hI => ?_) (fun n j s hj hI => ?_) (α 0 1) zFU 0 none (Nat.zero_add _) (by unfold zFU; omega) (fun m hm => by cases hm)
    · exact ⟨v, this, fun _ _ _ => rfl⟩
    · show fX10_chosen_7 (n + 1) 116 r (oI s) 0 (nI (α 0 1)) v = some (oI s, v)
      rw [fX10_chosen_7]
      dsimp only
      simp (disch := omega) only [↓reduceIte, i_0, i_1, i_2, i_3, i_4, i_5, i_6, i_7, i_8, i_9, i_10, i_11, i_12, i_13, i_14, i_15, i_16, i_17, i_18, i_19, i_20, i_21, i_22, i_23, i_24, i_25, i_26, i_27, i_28, i_29, i_30, i_31, i_32, i_33, i_34, i_35, i_36, i_37, i_38, i_39, i_40, i_41, i_42, i_43, i_44, i_45, i_46, i_47, i_48, i_49, i_50, i_51, i_52, i_53, i_54, i_55, i_56, i_57, i_58, i_59, i_60, i_61, i_62, i_63, i_91, i_93, i_97, i_98, i_99, i_100, i_101, i_102, i_103, i_104, i_122, i_150, i_200, i_255, i_305, i_600, i_729, i_999, i_1365, i_12345, i_32767, i_65536, i_100000, i_1000000, i_1103515245, zlet_eq, zbind_some, zbindv_some, ofN_nI, nI_add, pk_mul, nI_sub', nI_addg, gg_sub, nI_cl', zix_nI, rf_116_9, rf_116_10, rf_116_11, rf_116_12, rf_116_13, rf_116_14, rf_116_15, rf_116_16, rf_116_17, rf_116_18, rf_116_19, rf_116_20, rf_116_21, rf_116_22, rf_116_23, rf_116_24, rf_116_28, rf_116_29, rf_116_30, rf_116_31, rf_116_32, rf_116_33, rf_116_34, rf_116_35, rf_116_36, rf_116_37, rf_116_38, rf_116_39, rf_116_43, rf_116_49, rf_116_51, rf_116_54, rf_116_55, rf_116_56, rf_116_59, ln_127, ln_144, ln_161, ln_174, ln_187, ln_200, ln_213, ln_374, ln_535, ln_548, ln_561, ln_572, ln_577, ln_582, ln_117, ln_118, ln_119, ln_120, ln_121, ln_122, ln_123, ln_124, ln_125, ln_126, ln_565, ln_566, ln_567, ln_568, ln_569, ln_570, ln_571, ln_576, ln_600, ln_601, ln_602, ln_603, h120]
      rw [if_pos (Int32.le_refl _)]
      unfold fX10_chosen_128
      cases s with
      | none => rw [oI_none, if_pos (show -nI 1 = (-1 : Int32) from rfl)]; rfl
      | some m =>
        have hm := hI m rfl
        rw [oI_some, if_neg (show ¬ nI m = -1 from fun q => by rw [show (-1 : Int32) = -nI 1 from rfl, ng_eq (by omega) (by decide) (by decide)] at q; exact q)]
        simp (disch := omega) only [↓reduceIte, i_0, i_1, i_2, i_3, i_4, i_5, i_6, i_7, i_8, i_9, i_10, i_11, i_12, i_13, i_14, i_15, i_16, i_17, i_18, i_19, i_20, i_21, i_22, i_23, i_24, i_25, i_26, i_27, i_28, i_29, i_30, i_31, i_32, i_33, i_34, i_35, i_36, i_37, i_38, i_39, i_40, i_41, i_42, i_43, i_44, i_45, i_46, i_47, i_48, i_49, i_50, i_51, i_52, i_53, i_54, i_55, i_56, i_57, i_58, i_59, i_60, i_61, i_62, i_63, i_91, i_93, i_97, i_98, i_99, i_100, i_101, i_102, i_103, i_104, i_122, i_150, i_200, i_255, i_305, i_600, i_729, i_999, i_1365, i_12345, i_32767, i_65536, i_100000, i_1000000, i_1103515245, zlet_eq, zbind_some, zbindv_some, ofN_nI, nI_add, pk_mul, nI_sub', nI_addg, gg_sub, nI_cl', zix_nI, rf_116_9, rf_116_10, rf_116_11, rf_116_12, rf_116_13, rf_116_14, rf_116_15, rf_116_16, rf_116_17, rf_116_18, rf_116_19, rf_116_20, rf_116_21, rf_116_22, rf_116_23, rf_116_24, rf_116_28, rf_116_29, rf_116_30, rf_116_31, rf_116_32, rf_116_33, rf_116_34, rf_116_35, rf_116_36, rf_116_37, rf_116_38, rf_116_39, rf_116_43, rf_116_49, rf_116_51, rf_116_54, rf_116_55, rf_116_56, rf_116_59, ln_127, ln_144, ln_161, ln_174, ln_187, ln_200, ln_213, ln_374, ln_535, ln_548, ln_561, ln_572, ln_577, ln_582, ln_117, ln_118, ln_119, ln_120, ln_121, ln_122, ln_123, ln_124, ln_125, ln_126, ln_565, ln_566, ln_567, ln_568, ln_569, ln_570, ln_571, ln_576, ln_600, ln_601, ln_602, ln_603, hlr, h61']
        rw [if_pos (Int32.le_refl _)]
    · have hI2 : ∀ m, sEldS α ρ j s = some m → m < α 0 1 := by
        intro m hm
        unfold sEldS at hm
        split at hm
        · cases hm; exact hj
        · exact hI m hm
      refine ⟨?_, hI2⟩
      show fX10_chosen_7 (n + 1) 116 r (oI s) 0 (nI j) v = fX10_chosen_7 n 116 r (oI (sEldS α ρ j s)) 0 (nI (j + 1)) v
      have hst := hR.2.1 j (by omega)
      have hs4 := ho.2.2.2.1 j
      have hag := hE.1.2.2.1 j hj
      have hagl := ha.2.2.1 j hj
      rw [fX10_chosen_7]
      dsimp only
      simp (disch := omega) only [↓reduceIte, i_0, i_1, i_2, i_3, i_4, i_5, i_6, i_7, i_8, i_9, i_10, i_11, i_12, i_13, i_14, i_15, i_16, i_17, i_18, i_19, i_20, i_21, i_22, i_23, i_24, i_25, i_26, i_27, i_28, i_29, i_30, i_31, i_32, i_33, i_34, i_35, i_36, i_37, i_38, i_39, i_40, i_41, i_42, i_43, i_44, i_45, i_46, i_47, i_48, i_49, i_50, i_51, i_52, i_53, i_54, i_55, i_56, i_57, i_58, i_59, i_60, i_61, i_62, i_63, i_91, i_93, i_97, i_98, i_99, i_100, i_101, i_102, i_103, i_104, i_122, i_150, i_200, i_255, i_305, i_600, i_729, i_999, i_1365, i_12345, i_32767, i_65536, i_100000, i_1000000, i_1103515245, zlet_eq, zbind_some, zbindv_some, ofN_nI, nI_add, pk_mul, nI_sub', nI_addg, gg_sub, nI_cl', zix_nI, rf_116_9, rf_116_10, rf_116_11, rf_116_12, rf_116_13, rf_116_14, rf_116_15, rf_116_16, rf_116_17, rf_116_18, rf_116_19, rf_116_20, rf_116_21, rf_116_22, rf_116_23, rf_116_24, rf_116_28, rf_116_29, rf_116_30, rf_116_31, rf_116_32, rf_116_33, rf_116_34, rf_116_35, rf_116_36, rf_116_37, rf_116_38, rf_116_39, rf_116_43, rf_116_49, rf_116_51, rf_116_54, rf_116_55, rf_116_56, rf_116_59, ln_127, ln_144, ln_161, ln_174, ln_187, ln_200, ln_213, ln_374, ln_535, ln_548, ln_561, ln_572, ln_577, ln_582, ln_117, ln_118, ln_119, ln_120, ln_121, ln_122, ln_123, ln_124, ln_125, ln_126, ln_565, ln_566, ln_567, ln_568, ln_569, ln_570, ln_571, ln_576, ln_600, ln_601, ln_602, ln_603, h120, hlr, h61', Nat.zero_add, hst, hag]
      rw [if_neg (nI_ge hj (by omega))]
      unfold sEldS
      by_cases hc : sSt ρ j = 0
      · simp only [hc, if_true]
        cases s with
        | none =>
          rw [oI_none, if_pos rfl, if_pos ⟨trivial, Or.inl rfl⟩]
          rfl
        | some m =>
          have hm := hI m rfl
          have g1 := ha.2.2.1 m hm
          have hag2 := hE.1.2.2.1 m hm
          rw [oI_some, if_neg (show ¬ nI m = -nI 1 from fun q => by rw [ng_eq (by omega) (by decide) (by decide)] at q; exact q)]
          simp (disch := omega) only [↓reduceIte, i_0, i_1, i_2, i_3, i_4, i_5, i_6, i_7, i_8, i_9, i_10, i_11, i_12, i_13, i_14, i_15, i_16, i_17, i_18, i_19, i_20, i_21, i_22, i_23, i_24, i_25, i_26, i_27, i_28, i_29, i_30, i_31, i_32, i_33, i_34, i_35, i_36, i_37, i_38, i_39, i_40, i_41, i_42, i_43, i_44, i_45, i_46, i_47, i_48, i_49, i_50, i_51, i_52, i_53, i_54, i_55, i_56, i_57, i_58, i_59, i_60, i_61, i_62, i_63, i_91, i_93, i_97, i_98, i_99, i_100, i_101, i_102, i_103, i_104, i_122, i_150, i_200, i_255, i_305, i_600, i_729, i_999, i_1365, i_12345, i_32767, i_65536, i_100000, i_1000000, i_1103515245, zlet_eq, zbind_some, zbindv_some, ofN_nI, nI_add, pk_mul, nI_sub', nI_addg, gg_sub, nI_cl', zix_nI, rf_116_9, rf_116_10, rf_116_11, rf_116_12, rf_116_13, rf_116_14, rf_116_15, rf_116_16, rf_116_17, rf_116_18, rf_116_19, rf_116_20, rf_116_21, rf_116_22, rf_116_23, rf_116_24, rf_116_28, rf_116_29, rf_116_30, rf_116_31, rf_116_32, rf_116_33, rf_116_34, rf_116_35, rf_116_36, rf_116_37, rf_116_38, rf_116_39, rf_116_43, rf_116_49, rf_116_51, rf_116_54, rf_116_55, rf_116_56, rf_116_59, ln_127, ln_144, ln_161, ln_174, ln_187, ln_200, ln_213, ln_374, ln_535, ln_548, ln_561, ln_572, ln_577, ln_582, ln_117, ln_118, ln_119, ln_120, ln_121, ln_122, ln_123, ln_124, ln_125, ln_126, ln_565, ln_566, ln_567, ln_568, ln_569, ln_570, ln_571, ln_576, ln_600, ln_601, ln_602, ln_603, hag2, nI_le']
          by_cases e : α 2 j ≤ α 2 m
          · rw [if_pos e, if_neg (fun q => by rcases q.2 with h | h; cases h; exact absurd (show α 2 m < α 2 j from h) (by omega))]
            rfl
          · rw [if_neg e, if_pos ⟨trivial, Or.inr (show α 2 m < α 2 j by omega)⟩]
            rfl
      · rw [if_neg (show ¬ nI (sSt ρ j) = nI 0 from nI_ne0 (by omega) (by omega)), if_neg (fun q => hc q.1)]
  · rw [if_neg (show ¬ (sCh (sHp ρ h)).length = 0 from fun q => by have : (sCh ρ).length = 0 := q; omega)]
    have hne0 : ¬ nI (sCh ρ).length = nI 0 := nI_ne0 h0 (by omega)
    have hnl0 : ¬ nI (sCh ρ).length ≤ nI 0 := nI_nle h0 (by omega)
    have := lpR (fun n j (s : Option Nat × Bool) v => fX10_chosen_7 n 116 r (oI s.1) (if s.2 = true then 1 else 0) (nI j) v) (gMs ρ sc) (α 0 1) (fun _ s w => onlyK v w ∧ ∀ m, s.1 = some m → m < α 0 1) (fun s q => q.1 = oI (gMf sc s) ∧ onlyK v q.2) (fun n s w hK => ?_) (fun n j s w hj hK => ?_) (α 0 1) zFU 0 (none, false) v (Nat.zero_add _) (by unfold zFU; omega) ⟨fun _ _ _ => rfl, fun m hm => by cases hm⟩
    · rw [gM_two] at this
      obtain ⟨⟨q1, q2⟩, h1, h2, h3⟩ := this
      subst h2
      exact ⟨q2, h1, h3⟩
    · obtain ⟨hk, hI⟩ := hK
      show ∃ q, fX10_chosen_7 (n + 1) 116 r (oI s.1) (if s.2 = true then 1 else 0) (nI (α 0 1)) w = some q ∧ _
      have h120w : w 120 1 = nI (α 0 1) := by rw [hk 120 (by decide) (by decide)]; exact h120
      have h61w : w r 61 = nI (sCh ρ).length := by rw [hk r hr565 hr566]; exact h61
      rw [fX10_chosen_7]
      dsimp only
      simp (disch := omega) only [↓reduceIte, i_0, i_1, i_2, i_3, i_4, i_5, i_6, i_7, i_8, i_9, i_10, i_11, i_12, i_13, i_14, i_15, i_16, i_17, i_18, i_19, i_20, i_21, i_22, i_23, i_24, i_25, i_26, i_27, i_28, i_29, i_30, i_31, i_32, i_33, i_34, i_35, i_36, i_37, i_38, i_39, i_40, i_41, i_42, i_43, i_44, i_45, i_46, i_47, i_48, i_49, i_50, i_51, i_52, i_53, i_54, i_55, i_56, i_57, i_58, i_59, i_60, i_61, i_62, i_63, i_91, i_93, i_97, i_98, i_99, i_100, i_101, i_102, i_103, i_104, i_122, i_150, i_200, i_255, i_305, i_600, i_729, i_999, i_1365, i_12345, i_32767, i_65536, i_100000, i_1000000, i_1103515245, zlet_eq, zbind_some, zbindv_some, ofN_nI, nI_add, pk_mul, nI_sub', nI_addg, gg_sub, nI_cl', zix_nI, rf_116_9, rf_116_10, rf_116_11, rf_116_12, rf_116_13, rf_116_14, rf_116_15, rf_116_16, rf_116_17, rf_116_18, rf_116_19, rf_116_20, rf_116_21, rf_116_22, rf_116_23, rf_116_24, rf_116_28, rf_116_29, rf_116_30, rf_116_31, rf_116_32, rf_116_33, rf_116_34, rf_116_35, rf_116_36, rf_116_37, rf_116_38, rf_116_39, rf_116_43, rf_116_49, rf_116_51, rf_116_54, rf_116_55, rf_116_56, rf_116_59, ln_127, ln_144, ln_161, ln_174, ln_187, ln_200, ln_213, ln_374, ln_535, ln_548, ln_561, ln_572, ln_577, ln_582, ln_117, ln_118, ln_119, ln_120, ln_121, ln_122, ln_123, ln_124, ln_125, ln_126, ln_565, ln_566, ln_567, ln_568, ln_569, ln_570, ln_571, ln_576, ln_600, ln_601, ln_602, ln_603, h120w]
      rw [if_pos (Int32.le_refl _)]
      unfold fX10_chosen_128 gMf
      obtain ⟨s1, s2⟩ := s
      cases s1 with
      | none =>
        dsimp only
        rw [oI_none, if_pos (show -nI 1 = (-1 : Int32) from rfl)]
        exact ⟨_, rfl, rfl, hk⟩
      | some m =>
        dsimp only
        have hm := hI m rfl
        rw [oI_some, if_neg (show ¬ nI m = -1 from fun q => by rw [show (-1 : Int32) = -nI 1 from rfl, ng_eq (by omega) (by decide) (by decide)] at q; exact q)]
        simp (disch := omega) only [↓reduceIte, i_0, i_1, i_2, i_3, i_4, i_5, i_6, i_7, i_8, i_9, i_10, i_11, i_12, i_13, i_14, i_15, i_16, i_17, i_18, i_19, i_20, i_21, i_22, i_23, i_24, i_25, i_26, i_27, i_28, i_29, i_30, i_31, i_32, i_33, i_34, i_35, i_36, i_37, i_38, i_39, i_40, i_41, i_42, i_43, i_44, i_45, i_46, i_47, i_48, i_49, i_50, i_51, i_52, i_53, i_54, i_55, i_56, i_57, i_58, i_59, i_60, i_61, i_62, i_63, i_91, i_93, i_97, i_98, i_99, i_100, i_101, i_102, i_103, i_104, i_122, i_150, i_200, i_255, i_305, i_600, i_729, i_999, i_1365, i_12345, i_32767, i_65536, i_100000, i_1000000, i_1103515245, zlet_eq, zbind_some, zbindv_some, ofN_nI, nI_add, pk_mul, nI_sub', nI_addg, gg_sub, nI_cl', zix_nI, rf_116_9, rf_116_10, rf_116_11, rf_116_12, rf_116_13, rf_116_14, rf_116_15, rf_116_16, rf_116_17, rf_116_18, rf_116_19, rf_116_20, rf_116_21, rf_116_22, rf_116_23, rf_116_24, rf_116_28, rf_116_29, rf_116_30, rf_116_31, rf_116_32, rf_116_33, rf_116_34, rf_116_35, rf_116_36, rf_116_37, rf_116_38, rf_116_39, rf_116_43, rf_116_49, rf_116_51, rf_116_54, rf_116_55, rf_116_56, rf_116_59, ln_127, ln_144, ln_161, ln_174, ln_187, ln_200, ln_213, ln_374, ln_535, ln_548, ln_561, ln_572, ln_577, ln_582, ln_117, ln_118, ln_119, ln_120, ln_121, ln_122, ln_123, ln_124, ln_125, ln_126, ln_565, ln_566, ln_567, ln_568, ln_569, ln_570, ln_571, ln_576, ln_600, ln_601, ln_602, ln_603, hlr, h61w]
        rw [if_neg hnl0]
        cases s2 with
        | true =>
          rw [if_pos rfl, if_neg (show ¬ nI 1 = nI 0 by decide), if_pos rfl]
          exact ⟨_, rfl, rfl, hk⟩
        | false =>
          simp only [Bool.false_eq_true, ↓reduceIte]
          obtain ⟨u, hu, huk⟩ := hSco hk hm
          rw [hu, zbind_some]
          by_cases hp : nI 0 < sc m
          · rw [if_pos hp, if_pos hp]
            exact ⟨_, rfl, rfl, huk⟩
          · rw [if_neg hp, if_neg hp]
            exact ⟨_, rfl, rfl, huk⟩
    · obtain ⟨hk, hI⟩ := hK
      show ∃ u, fX10_chosen_7 (n + 1) 116 r (oI s.1) (if s.2 = true then 1 else 0) (nI j) w = fX10_chosen_7 n 116 r (oI (gMs ρ sc j s).1) (if (gMs ρ sc j s).2 = true then 1 else 0) (nI (j + 1)) u ∧ _
      have h120w : w 120 1 = nI (α 0 1) := by rw [hk 120 (by decide) (by decide)]; exact h120
      have h61w : w r 61 = nI (sCh ρ).length := by rw [hk r hr565 hr566]; exact h61
      have hst : w r j = nI (sSt ρ j) := by rw [hk r hr565 hr566]; exact hR.2.1 j (by omega)
      have hs4 := ho.2.2.2.1 j
      rw [fX10_chosen_7]
      dsimp only
      simp (disch := omega) only [↓reduceIte, i_0, i_1, i_2, i_3, i_4, i_5, i_6, i_7, i_8, i_9, i_10, i_11, i_12, i_13, i_14, i_15, i_16, i_17, i_18, i_19, i_20, i_21, i_22, i_23, i_24, i_25, i_26, i_27, i_28, i_29, i_30, i_31, i_32, i_33, i_34, i_35, i_36, i_37, i_38, i_39, i_40, i_41, i_42, i_43, i_44, i_45, i_46, i_47, i_48, i_49, i_50, i_51, i_52, i_53, i_54, i_55, i_56, i_57, i_58, i_59, i_60, i_61, i_62, i_63, i_91, i_93, i_97, i_98, i_99, i_100, i_101, i_102, i_103, i_104, i_122, i_150, i_200, i_255, i_305, i_600, i_729, i_999, i_1365, i_12345, i_32767, i_65536, i_100000, i_1000000, i_1103515245, zlet_eq, zbind_some, zbindv_some, ofN_nI, nI_add, pk_mul, nI_sub', nI_addg, gg_sub, nI_cl', zix_nI, rf_116_9, rf_116_10, rf_116_11, rf_116_12, rf_116_13, rf_116_14, rf_116_15, rf_116_16, rf_116_17, rf_116_18, rf_116_19, rf_116_20, rf_116_21, rf_116_22, rf_116_23, rf_116_24, rf_116_28, rf_116_29, rf_116_30, rf_116_31, rf_116_32, rf_116_33, rf_116_34, rf_116_35, rf_116_36, rf_116_37, rf_116_38, rf_116_39, rf_116_43, rf_116_49, rf_116_51, rf_116_54, rf_116_55, rf_116_56, rf_116_59, ln_127, ln_144, ln_161, ln_174, ln_187, ln_200, ln_213, ln_374, ln_535, ln_548, ln_561, ln_572, ln_577, ln_582, ln_117, ln_118, ln_119, ln_120, ln_121, ln_122, ln_123, ln_124, ln_125, ln_126, ln_565, ln_566, ln_567, ln_568, ln_569, ln_570, ln_571, ln_576, ln_600, ln_601, ln_602, ln_603, h120w, hlr, h61w, Nat.zero_add, hst]
      rw [if_neg (nI_ge hj (by omega)), if_neg hne0]
      unfold gMs
      by_cases hc : sSt ρ j = 0
      · rw [if_neg (show ¬ (sSt ρ j ≠ 0) from fun q => q hc)]
        simp only [hc, if_true]
        obtain ⟨u, hu, huk⟩ := hSco hk hj
        rw [hu, zbind_some]
        obtain ⟨s1, s2⟩ := s
        cases s1 with
        | none =>
          dsimp only
          rw [oI_none, if_pos rfl]
          exact ⟨u, rfl, huk, fun m hm => by cases hm; exact hj⟩
        | some m =>
          dsimp only
          have hm := hI m rfl
          obtain ⟨t, ht, htk⟩ := hSco huk hm
          rw [oI_some, if_neg (show ¬ nI m = -nI 1 from fun q => by rw [ng_eq (by omega) (by decide) (by decide)] at q; exact q), ht, zbind_some]
          by_cases e : sc j ≤ sc m
          · simp only [if_pos e]
            cases s2 with
            | true =>
              rw [if_pos rfl, if_neg (show ¬ nI 1 = nI 0 by decide)]
              exact ⟨t, rfl, htk, fun k hk => by cases hk; exact hm⟩
            | false =>
              simp only [Bool.false_eq_true, ↓reduceIte]
              obtain ⟨x, hx, hxk⟩ := hSco htk hm
              rw [hx, zbind_some]
              by_cases e2 : sc j = sc m
              · rw [if_pos e2]
                refine ⟨x, ?_, hxk, fun k hk => by cases hk; exact hm⟩
                simp [e2, oI_some]
              · rw [if_neg e2]
                refine ⟨x, ?_, hxk, fun k hk => by cases hk; exact hm⟩
                simp [e2, oI_some]
          · simp only [if_neg e]
            exact ⟨t, rfl, htk, fun k hk => by cases hk; exact hj⟩
      · rw [if_neg (show ¬ nI (sSt ρ j) = nI 0 from nI_ne0 (by omega) (by omega)), if_pos hc]
        exact ⟨w, rfl, hk, hI⟩
/-! writes into a row of the reference -/
theorem MRf_st {g : Nat → Int32} {ρ : sR} (h : MRf g ρ) {m : Nat} (hm : m < 16) (s : Nat) : MRf (sUp g m (nI s)) (rUpSt ρ (sUp (sSt ρ) m s)) := by
  obtain ⟨⟨h0, h1, h2, h3, h4, h6, h7⟩, hst, hwt, hsn, hch, hpy, hps, htk, hl13, h512⟩ := h
  have e : ∀ k, 16 ≤ k → sUp g m (nI s) k = g k := fun k hk => sUp_n _ _ (by omega)
  refine ⟨⟨?_, ?_, ?_, ?_, ?_, ?_, ?_⟩, fun i hi => ?_, fun i hi => ?_, fun i hi => ?_, fun i hi => ?_, fun i hi => ?_, fun i hi => ?_, fun y h8 h9 => ?_, ?_, ?_⟩
  · rw [e 61 (by omega)]; exact h0
  · rw [e 98 (by omega)]; exact h1
  · rw [e 99 (by omega)]; exact h2
  · rw [e 100 (by omega)]; exact h3
  · rw [e 101 (by omega)]; exact h4
  · rw [e 102 (by omega)]; exact h6
  · rw [e 103 (by omega)]; exact h7
  · show sUp g m (nI s) i = nI (sUp (sSt ρ) m s i)
    rw [sUp_if, sUp_if]
    split
    · rfl
    · exact hst i hi
  · rw [e _ (by omega)]; exact hwt i hi
  · rw [e _ (by omega)]; exact hsn i hi
  · rw [e _ (by omega)]; exact hch i hi
  · rw [e _ (by omega)]; exact hpy i hi
  · exact (zsum_cg _ (fun k hk => by rw [e _ (by omega), e _ (by omega), e _ (by omega)]; rfl)).trans (hps i hi)
  · rw [e _ (by omega)]; exact htk y h8 h9
  · exact hl13
  · exact h512
theorem MRf_wt {g : Nat → Int32} {ρ : sR} (h : MRf g ρ) {m : Nat} (hm : m < 16) (s : Nat) : MRf (sUp g (16 + m) (nI s)) (rUpWt ρ (sUp (sWt ρ) m s)) := by
  obtain ⟨⟨h0, h1, h2, h3, h4, h6, h7⟩, hst, hwt, hsn, hch, hpy, hps, htk, hl13, h512⟩ := h
  have e : ∀ k, k < 16 ∨ 32 ≤ k → sUp g (16 + m) (nI s) k = g k := fun k hk => sUp_n _ _ (by omega)
  refine ⟨⟨?_, ?_, ?_, ?_, ?_, ?_, ?_⟩, fun i hi => ?_, fun i hi => ?_, fun i hi => ?_, fun i hi => ?_, fun i hi => ?_, fun i hi => ?_, fun y h8 h9 => ?_, ?_, ?_⟩
  · rw [e 61 (by omega)]; exact h0
  · rw [e 98 (by omega)]; exact h1
  · rw [e 99 (by omega)]; exact h2
  · rw [e 100 (by omega)]; exact h3
  · rw [e 101 (by omega)]; exact h4
  · rw [e 102 (by omega)]; exact h6
  · rw [e 103 (by omega)]; exact h7
  · rw [e _ (by omega)]; exact hst i hi
  · show sUp g (16 + m) (nI s) (16 + i) = nI (sUp (sWt ρ) m s i)
    rw [sUp_if, sUp_if]
    by_cases c : i = m
    · rw [if_pos (by omega), if_pos c]
    · rw [if_neg (by omega), if_neg c]; exact hwt i hi
  · rw [e _ (by omega)]; exact hsn i hi
  · rw [e _ (by omega)]; exact hch i hi
  · rw [e _ (by omega)]; exact hpy i hi
  · exact (zsum_cg _ (fun k hk => by rw [e _ (by omega), e _ (by omega), e _ (by omega)]; rfl)).trans (hps i hi)
  · rw [e _ (by omega)]; exact htk y h8 h9
  · exact hl13
  · exact h512
/-- the counts: field k of the reference's row is count j -/
def scM (k j : Nat) : Prop := (k = 100 ∧ j = 1) ∨ (k = 101 ∧ j = 2) ∨ (k = 102 ∧ j = 3) ∨ (k = 103 ∧ j = 4)
theorem MRf_sc {g : Nat → Int32} {ρ : sR} (h : MRf g ρ) {k j : Nat} (hk : scM k j) (s : Nat) : MRf (sUp g k (nI s)) (rUpSc ρ (sUp (sSc ρ) j s)) := by
  obtain ⟨⟨h0, h1, h2, h3, h4, h6, h7⟩, hst, hwt, hsn, hch, hpy, hps, htk, hl13, h512⟩ := h
  have e : ∀ i, i < 100 ∨ 103 < i → sUp g k (nI s) i = g i := fun i hi => sUp_n _ _ (by rcases hk with h | h | h | h <;> omega)
  have ej : sSc (rUpSc ρ (sUp (sSc ρ) j s)) 0 = sSc ρ 0 := sUp_n _ _ (by rcases hk with h | h | h | h <;> omega)
  have e5 : sSc (rUpSc ρ (sUp (sSc ρ) j s)) 5 = sSc ρ 5 := sUp_n _ _ (by rcases hk with h | h | h | h <;> omega)
  refine ⟨⟨?_, ?_, ?_, ?_, ?_, ?_, ?_⟩, fun i hi => ?_, fun i hi => ?_, fun i hi => ?_, fun i hi => ?_, fun i hi => ?_, fun i hi => ?_, fun y h8 h9 => ?_, ?_, ?_⟩
  · rw [e 61 (by omega)]; exact h0
  · rw [e 98 (by omega), e5]; exact h1
  · rw [e 99 (by omega), ej]; exact h2
  · show sUp g k (nI s) 100 = nI (sUp (sSc ρ) j s 1)
    rcases hk with ⟨rfl, rfl⟩ | ⟨rfl, rfl⟩ | ⟨rfl, rfl⟩ | ⟨rfl, rfl⟩ <;> simp [sUp, h3]
  · show sUp g k (nI s) 101 = nI (sUp (sSc ρ) j s 2)
    rcases hk with ⟨rfl, rfl⟩ | ⟨rfl, rfl⟩ | ⟨rfl, rfl⟩ | ⟨rfl, rfl⟩ <;> simp [sUp, h4]
  · show sUp g k (nI s) 102 = nI (sUp (sSc ρ) j s 3)
    rcases hk with ⟨rfl, rfl⟩ | ⟨rfl, rfl⟩ | ⟨rfl, rfl⟩ | ⟨rfl, rfl⟩ <;> simp [sUp, h6]
  · show sUp g k (nI s) 103 = nI (sUp (sSc ρ) j s 4)
    rcases hk with ⟨rfl, rfl⟩ | ⟨rfl, rfl⟩ | ⟨rfl, rfl⟩ | ⟨rfl, rfl⟩ <;> simp [sUp, h7]
  · rw [e _ (by omega)]; exact hst i hi
  · rw [e _ (by omega)]; exact hwt i hi
  · rw [e _ (by omega)]; exact hsn i hi
  · have hi2 : i < (sCh ρ).length := hi
    rw [e _ (by omega)]; exact hch i hi
  · rw [e5] at hi
    rw [e _ (by omega), ej]; exact hpy i hi
  · rw [e5, ej]
    exact (zsum_cg _ (fun k hk => by rw [e _ (by omega), e _ (by omega), e _ (by omega)])).trans (hps i hi)
  · rw [e _ (by omega), ej]; exact htk y h8 h9
  · exact hl13
  · rw [e5]; exact h512
theorem MRf_sn {g : Nat → Int32} {ρ : sR} (h : MRf g ρ) {m : Nat} (hm : m < 16) (hm1 : sSn ρ m = -1) (hY : sSc ρ 0 < 1000) : MRf (sUp g (32 + m) (nI (sSc ρ 0))) (rUpSn ρ (sUp (sSn ρ) m (nI (sSc ρ 0)))) := by
  obtain ⟨⟨h0, h1, h2, h3, h4, h6, h7⟩, hst, hwt, hsn, hch, hpy, hps, htk, hl13, h512⟩ := h
  have e : ∀ k, k < 32 ∨ 48 ≤ k → sUp g (32 + m) (nI (sSc ρ 0)) k = g k := fun k hk => sUp_n _ _ (by omega)
  refine ⟨⟨?_, ?_, ?_, ?_, ?_, ?_, ?_⟩, fun i hi => ?_, fun i hi => ?_, fun i hi => ?_, fun i hi => ?_, fun i hi => ?_, fun i hi => ?_, fun y h8 h9 => ?_, ?_, ?_⟩
  · rw [e 61 (by omega)]; exact h0
  · rw [e 98 (by omega)]; exact h1
  · rw [e 99 (by omega)]; exact h2
  · rw [e 100 (by omega)]; exact h3
  · rw [e 101 (by omega)]; exact h4
  · rw [e 102 (by omega)]; exact h6
  · rw [e 103 (by omega)]; exact h7
  · rw [e _ (by omega)]; exact hst i hi
  · rw [e _ (by omega)]; exact hwt i hi
  · show sUp g (32 + m) (nI (sSc ρ 0)) (32 + i) = sUp (sSn ρ) m (nI (sSc ρ 0)) i
    rw [sUp_if, sUp_if]
    by_cases c : i = m
    · rw [if_pos (by omega), if_pos c]
    · rw [if_neg (by omega), if_neg c]; exact hsn i hi
  · rw [e _ (by omega)]; exact hch i hi
  · rw [e _ (by omega)]; exact hpy i hi
  · exact (zsum_cg _ (fun k hk => by rw [e _ (by omega), e _ (by omega), e _ (by omega)]; rfl)).trans (hps i hi)
  · rw [e _ (by omega), htk y h8 h9]
    show _ = if y < sSc ρ 0 then _ else _
    by_cases c : y < sSc ρ 0
    · rw [if_pos c, if_pos c]
      unfold sTk
      refine congrArg oI (congrArg (fun p => List.find? p (List.range 16)) (funext fun k => ?_))
      show (sSn ρ k == nI y) = (sUp (sSn ρ) m (nI (sSc ρ 0)) k == nI y)
      rw [sUp_if]
      by_cases ck : k = m
      · rw [if_pos ck, ck, hm1, beq_eq_false_iff_ne.mpr, beq_eq_false_iff_ne.mpr]
        · intro q
          have := (nI_eq (by omega) (by omega)).mp q
          omega
        · intro q
          rw [show (-1 : Int32) = -nI 1 from rfl, ng_eq2 (by omega) (by decide) (by decide)] at q
          exact q
      · rw [if_neg ck]
    · rw [if_neg c, if_neg c]
  · exact hl13
  · exact h512
theorem MRf_push {g : Nat → Int32} {ρ : sR} (h : MRf g ρ) (hl : (sCh ρ).length < 13) (m : Nat) : MRf (sUp (sUp g (48 + (sCh ρ).length) (nI m)) 61 (nI ((sCh ρ).length + 1))) (rUpCh ρ (sCh ρ ++ [m])) := by
  obtain ⟨⟨h0, h1, h2, h3, h4, h6, h7⟩, hst, hwt, hsn, hch, hpy, hps, htk, hl13, h512⟩ := h
  have e : ∀ k, k < 48 ∨ 61 < k → sUp (sUp g (48 + (sCh ρ).length) (nI m)) 61 (nI ((sCh ρ).length + 1)) k = g k := fun k hk => by rw [sUp_n _ _ (by omega), sUp_n _ _ (by omega)]
  have hlen : (sCh (rUpCh ρ (sCh ρ ++ [m]))).length = (sCh ρ).length + 1 := by
    show (sCh ρ ++ [m]).length = _
    rw [List.length_append]; rfl
  refine ⟨⟨?_, ?_, ?_, ?_, ?_, ?_, ?_⟩, fun i hi => ?_, fun i hi => ?_, fun i hi => ?_, fun i hi => ?_, fun i hi => ?_, fun i hi => ?_, fun y h8 h9 => ?_, ?_, ?_⟩
  · rw [hlen, sUp_s]
  · rw [e 98 (by omega)]; exact h1
  · rw [e 99 (by omega)]; exact h2
  · rw [e 100 (by omega)]; exact h3
  · rw [e 101 (by omega)]; exact h4
  · rw [e 102 (by omega)]; exact h6
  · rw [e 103 (by omega)]; exact h7
  · rw [e _ (by omega)]; exact hst i hi
  · rw [e _ (by omega)]; exact hwt i hi
  · rw [e _ (by omega)]; exact hsn i hi
  · rw [hlen] at hi
    rw [sUp_n _ _ (by omega), sUp_if]
    show _ = nI ((sCh ρ ++ [m]).getD i 0)
    rw [List.getD_eq_getElem?_getD, List.getElem?_append]
    by_cases c : i = (sCh ρ).length
    · rw [if_pos (by omega), if_neg (by omega), c, Nat.sub_self]
      rfl
    · rw [if_neg (by omega), if_pos (by omega), hch i (by omega), List.getD_eq_getElem?_getD]
  · rw [e _ (by omega)]; exact hpy i hi
  · exact (zsum_cg _ (fun k hk => by rw [e _ (by omega), e _ (by omega), e _ (by omega)]; rfl)).trans (hps i hi)
  · rw [e _ (by omega)]; exact htk y h8 h9
  · rw [hlen]; omega
  · exact h512
theorem MRf_er {g : Nat → Int32} {ρ : sR} (h : MRf g ρ) {c : Nat} (hc : c < (sCh ρ).length) {w : Nat → Int32} (hw : ∀ k, (k < 48 ∨ 60 < k) → w k = g k) (hw2 : ∀ k, k < 13 → w (48 + k) = if c ≤ k ∧ k + 1 < (sCh ρ).length then g (48 + k + 1) else g (48 + k)) : MRf (sUp w 61 (nI ((sCh ρ).length - 1))) (rUpCh ρ ((sCh ρ).eraseIdx c)) := by
  obtain ⟨⟨h0, h1, h2, h3, h4, h6, h7⟩, hst, hwt, hsn, hch, hpy, hps, htk, hl13, h512⟩ := h
  have e : ∀ k, k < 48 ∨ 61 < k → sUp w 61 (nI ((sCh ρ).length - 1)) k = g k := fun k hk => by rw [sUp_n _ _ (by omega), hw k (by omega)]
  have hlen : (sCh (rUpCh ρ ((sCh ρ).eraseIdx c))).length = (sCh ρ).length - 1 := by
    show ((sCh ρ).eraseIdx c).length = _
    rw [List.length_eraseIdx, if_pos hc]
  refine ⟨⟨?_, ?_, ?_, ?_, ?_, ?_, ?_⟩, fun i hi => ?_, fun i hi => ?_, fun i hi => ?_, fun i hi => ?_, fun i hi => ?_, fun i hi => ?_, fun y h8 h9 => ?_, ?_, ?_⟩
  · rw [hlen, sUp_s]
  · rw [e 98 (by omega)]; exact h1
  · rw [e 99 (by omega)]; exact h2
  · rw [e 100 (by omega)]; exact h3
  · rw [e 101 (by omega)]; exact h4
  · rw [e 102 (by omega)]; exact h6
  · rw [e 103 (by omega)]; exact h7
  · rw [e _ (by omega)]; exact hst i hi
  · rw [e _ (by omega)]; exact hwt i hi
  · rw [e _ (by omega)]; exact hsn i hi
  · rw [hlen] at hi
    rw [sUp_n _ _ (by omega), hw2 i (by omega)]
    show _ = nI (((sCh ρ).eraseIdx c).getD i 0)
    rw [List.getD_eq_getElem?_getD, List.getElem?_eraseIdx]
    by_cases hkc : i < c
    · rw [if_neg (by omega), if_pos hkc, hch i (by omega), List.getD_eq_getElem?_getD]
    · rw [if_pos (by omega), if_neg hkc, Nat.add_assoc, hch (i + 1) (by omega), List.getD_eq_getElem?_getD]
  · rw [e _ (by omega)]; exact hpy i hi
  · exact (zsum_cg _ (fun k hk => by rw [e _ (by omega), e _ (by omega), e _ (by omega)]; rfl)).trans (hps i hi)
  · rw [e _ (by omega)]; exact htk y h8 h9
  · rw [hlen]; omega
  · exact h512
theorem MRf_age {g : Nat → Int32} {ρ : sR} (h : MRf g ρ) (hY : sSc ρ 0 < 1000) {w : Nat → Int32} (hw : ∀ k, (k ≤ 103 ∨ k ≠ 104 + sSc ρ 0) → w k = g k) (hw2 : sSc ρ 0 ≤ 200 → w (104 + sSc ρ 0) = oI (sTk ρ (sSc ρ 0))) : MRf (sUp w 99 (nI (sSc ρ 0 + 1))) (rUpAs (rUpSc ρ (sUp (sSc ρ) 0 (sSc ρ 0 + 1))) (fun _ => 0)) := by
  obtain ⟨⟨h0, h1, h2, h3, h4, h6, h7⟩, hst, hwt, hsn, hch, hpy, hps, htk, hl13, h512⟩ := h
  have e : ∀ k, k ≤ 103 → k ≠ 99 → sUp w 99 (nI (sSc ρ 0 + 1)) k = g k := fun k hk h9 => by rw [sUp_n _ _ h9, hw k (by omega)]
  have ey : sSc (rUpAs (rUpSc ρ (sUp (sSc ρ) 0 (sSc ρ 0 + 1))) (fun _ => 0)) 0 = sSc ρ 0 + 1 := sUp_s (sSc ρ) 0 (sSc ρ 0 + 1)
  have en : ∀ k, k ≠ 0 → sSc (rUpAs (rUpSc ρ (sUp (sSc ρ) 0 (sSc ρ 0 + 1))) (fun _ => 0)) k = sSc ρ k := fun k hk => sUp_n (sSc ρ) (k := 0) (j := k) (sSc ρ 0 + 1) hk
  refine ⟨⟨?_, ?_, ?_, ?_, ?_, ?_, ?_⟩, fun i hi => ?_, fun i hi => ?_, fun i hi => ?_, fun i hi => ?_, fun i hi => ?_, fun i hi => ?_, fun y h8 h9 => ?_, ?_, ?_⟩
  · rw [e 61 (by omega) (by omega)]; exact h0
  · rw [e 98 (by omega) (by omega), en 5 (by decide)]; exact h1
  · rw [ey, sUp_s]
  · rw [e 100 (by omega) (by omega), en 1 (by decide)]; exact h3
  · rw [e 101 (by omega) (by omega), en 2 (by decide)]; exact h4
  · rw [e 102 (by omega) (by omega), en 3 (by decide)]; exact h6
  · rw [e 103 (by omega) (by omega), en 4 (by decide)]; exact h7
  · rw [e _ (by omega) (by omega)]; exact hst i hi
  · rw [e _ (by omega) (by omega)]; exact hwt i hi
  · rw [e _ (by omega) (by omega)]; exact hsn i hi
  · have hi2 : i < (sCh ρ).length := hi
    rw [e _ (by omega) (by omega)]; exact hch i hi
  · rw [en 5 (by decide)] at hi
    obtain ⟨y, hy1, hy2⟩ := hpy i hi
    exact ⟨y, by rw [ey]; omega, by rw [e _ (by omega) (by omega)]; exact hy2⟩
  · rw [en 5 (by decide), ey]
    refine zsum_0 _ (fun k hk => ?_)
    obtain ⟨y, hy1, hy2⟩ := hpy k hk
    rw [if_neg]
    rintro ⟨q, -⟩
    rw [e _ (by omega) (by omega), hy2] at q
    have := (nI_eq (by omega) (by omega)).mp q
    omega
  · rw [ey, sUp_n _ _ (by omega)]
    by_cases c : y = sSc ρ 0
    · rw [if_pos (by omega), c, hw2 (by omega)]
      rfl
    · rw [hw _ (by omega), htk y h8 h9]
      by_cases c2 : y < sSc ρ 0
      · rw [if_pos c2, if_pos (by omega)]
        rfl
      · rw [if_neg c2, if_neg (by omega)]
  · exact hl13
  · rw [en 5 (by decide)]; exact h512
end
