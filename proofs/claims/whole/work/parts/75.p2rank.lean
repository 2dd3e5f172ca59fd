/-! the years ahead, gone on: STAYS, HEIR, DOOMED of the reference; RANK, LEAD of both -/
section
theorem p_mStayL {v0 : zV} {α : sA} {l : sL} (ha : okA α) (hl : okL l) {m : Nat} (hm : m < α 0 1) : ∀ (d n j : Nat) (ρ : sR) (w : zV), j + d = 61 → d < n → pTM v0 α l w ρ → sSc ρ 0 + d < 900 → ∃ u, fX10_stays_42 n 116 (nI m) (nI j) w = some (sStay α l m d j ρ, u) ∧ frM v0 u := by
  have hM := ha.1.2.1
  intro d
  induction d with
  | zero =>
    intro n j ρ w hj hn hT hyr
    obtain ⟨n, rfl⟩ : ∃ k, n = k + 1 := ⟨n - 1, by omega⟩
    obtain rfl : j = 61 := by omega
    refine ⟨w, ?_, hT.2.2.2.2⟩
    rw [fX10_stays_42]
    dsimp only
    rw [if_pos (by decide)]
    rfl
  | succ d ih =>
    intro n j ρ w hj hn hT hyr
    obtain ⟨n, rfl⟩ : ∃ k, n = k + 1 := ⟨n - 1, by omega⟩
    have hs4 := hT.2.2.1.2.2.2.1 m
    have hst := hT.2.1.2.1 m (by omega)
    rw [fX10_stays_42]
    dsimp only
    rw [if_neg (show ¬ (60 : Int32) < nI j from nI_nlt (a := 60) (b := j) (by omega) (by decide)), sStay]
    simp (disch := omega) only [↓reduceIte, i_0, i_1, i_2, i_3, i_4, i_5, i_6, i_7, i_8, i_9, i_10, i_11, i_12, i_13, i_14, i_15, i_16, i_17, i_18, i_19, i_20, i_21, i_22, i_23, i_24, i_25, i_26, i_27, i_28, i_29, i_30, i_31, i_32, i_33, i_34, i_35, i_36, i_37, i_38, i_39, i_40, i_41, i_42, i_43, i_44, i_45, i_46, i_47, i_48, i_49, i_50, i_51, i_52, i_53, i_54, i_55, i_56, i_57, i_58, i_59, i_60, i_61, i_62, i_63, i_91, i_93, i_97, i_98, i_99, i_100, i_101, i_102, i_103, i_104, i_122, i_150, i_200, i_255, i_305, i_600, i_729, i_999, i_1365, i_12345, i_32767, i_65536, i_100000, i_1000000, i_1103515245, zlet_eq, zbind_some, zbindv_some, ofN_nI, nI_add, pk_mul, nI_sub', nI_addg, gg_sub, nI_cl', zix_nI, rf_116_9, rf_116_10, rf_116_11, rf_116_12, rf_116_13, rf_116_14, rf_116_15, rf_116_16, rf_116_17, rf_116_18, rf_116_19, rf_116_20, rf_116_21, rf_116_22, rf_116_23, rf_116_24, rf_116_28, rf_116_29, rf_116_30, rf_116_31, rf_116_32, rf_116_33, rf_116_34, rf_116_35, rf_116_36, rf_116_37, rf_116_38, rf_116_39, rf_116_43, rf_116_49, rf_116_51, rf_116_54, rf_116_55, rf_116_56, rf_116_59, ln_127, ln_144, ln_161, ln_174, ln_187, ln_200, ln_213, ln_374, ln_535, ln_548, ln_561, ln_572, ln_577, ln_582, ln_117, ln_118, ln_119, ln_120, ln_121, ln_122, ln_123, ln_124, ln_125, ln_126, ln_565, ln_566, ln_567, ln_568, ln_569, ln_570, ln_571, ln_576, ln_600, ln_601, ln_602, ln_603, Nat.zero_add, hst, nI_eq']
    by_cases e : sSt ρ m = 1
    · obtain ⟨u, hu, h50, hT2, hy2⟩ := p_mPassT ha hl hT (by omega)
      rw [if_pos e, if_pos e, hu, zbindv_some]
      exact ih n (j + 1) (sPass α l ρ).2 u (by omega) (by omega) hT2 (by omega)
    · rw [if_neg e, if_neg e]
      exact ⟨w, rfl, hT.2.2.2.2⟩
theorem p_mStays {v : zV} {α : sA} {l : sL} {ρ : sR} (h : MQ' v α l ρ) (ho : OKs α l ρ) {m : Nat} (hm : m < α 0 1) : ∃ w, (zbindv (fX10_copies 567 570 v) fun v_3 => fX10_stays_42 zFU 116 (nI m) 0 v_3) = some (sStay α l m 61 0 ρ, w) ∧ frM v w := by
  obtain ⟨w, hw, hT⟩ := p_mTrial h ho
  obtain ⟨u, hu, huf⟩ := p_mStayL ho.1 ho.2.1 hm 61 zFU 0 ρ w rfl (by unfold zFU; omega) hT (by have := ho.2.2.2; omega)
  refine ⟨u, ?_, huf⟩
  rw [hw, zbindv_some]
  exact hu
theorem p_mKillT {v0 w : zV} {α : sA} {l : sL} {ρ : sR} (ha : okA α) (hl : okL l) (h : pTM v0 α l w ρ) {m : Nat} (hm : m < α 0 1) : ∃ u, fX10_dies 116 570 (nI m) w = some u ∧ pTM v0 α l u (sKill α ρ m) := by
  obtain ⟨u, hu, hr, hon⟩ := p_mDies ha m570 (ok_13 ha) h.1.1 h.2.1 h.2.2.1 hm
  have hf : frM w u := frM_c (by decide) (by decide) hon
  exact ⟨u, hu, pME_f ha hl h.1 hf, hr, okW_kill h.2.2.1 hm, MQ0_f h.2.2.2.1 hf, frM_tr h.2.2.2.2 hf⟩
theorem p_mHeirL {v0 : zV} {α : sA} {l : sL} (ha : okA α) (hl : okL l) : ∀ (d n j : Nat) (ρ : sR) (w : zV), j + d = 60 → d < n → pTM v0 α l w ρ → sSc ρ 0 + d < 900 → ∃ u, fX10_heir_65 n 116 (nI j) w = some (sHeir α l d ρ, u) ∧ frM v0 u := by
  have hM := ha.1.2.1
  intro d
  induction d with
  | zero =>
    intro n j ρ w hj hn hT hyr
    obtain ⟨n, rfl⟩ : ∃ k, n = k + 1 := ⟨n - 1, by omega⟩
    obtain rfl : j = 60 := by omega
    refine ⟨w, ?_, hT.2.2.2.2⟩
    rw [fX10_heir_65]
    dsimp only
    rw [if_pos (by decide)]
    rfl
  | succ d ih =>
    intro n j ρ w hj hn hT hyr
    obtain ⟨n, rfl⟩ : ∃ k, n = k + 1 := ⟨n - 1, by omega⟩
    obtain ⟨u, hu, h50, hT2, hy2⟩ := p_mPassT ha hl hT (by omega)
    rw [fX10_heir_65]
    dsimp only
    rw [if_neg (show ¬ (60 : Int32) ≤ nI j from nI_ge (b := 60) (by omega) (by decide)), rf_116_38, hu, zbindv_some, h50, sHeir]
    cases e : (sPass α l ρ).1 with
    | none =>
      rw [oI_none, if_pos (show -nI 1 = (-1 : Int32) from rfl), nI_1]
      exact ih n (j + 1) (sPass α l ρ).2 u (by omega) (by omega) hT2 (by omega)
    | some m =>
      have := sPass_lt e
      rw [oI_some, if_neg (fun q => by rw [show (-1 : Int32) = -nI 1 from rfl, ng_eq (by omega) (by decide) (by decide)] at q; exact q)]
      exact ⟨u, rfl, hT2.2.2.2.2⟩
theorem p_mHeir {v : zV} {α : sA} {l : sL} {ρ : sR} (h : MQ' v α l ρ) (ho : OKs α l ρ) {m : Nat} (hm : m < α 0 1) : ∃ w, (if v 567 m = 1 then (zbindv (fX10_copies 567 570 v) fun v_3 => zbindv (fX10_dies 116 570 (nI m) v_3) fun v_4 => fX10_heir_65 zFU 116 0 v_4) else some ((-1 : Int32), v)) = some (sHeirOf α l ρ m, w) ∧ frM v w := by
  have hM := ho.1.1.2.1
  have hs4 := ho.2.2.1.2.2.2.1 m
  unfold sHeirOf
  rw [h.2.1.2.1 m (by omega)]
  simp (disch := omega) only [i_1, nI_eq']
  by_cases e : sSt ρ m = 1
  · obtain ⟨w, hw, hT⟩ := p_mTrial h ho
    obtain ⟨u, hu, hT2⟩ := p_mKillT ho.1 ho.2.1 hT hm
    have hy : sSc (sKill α ρ m) 0 = sSc ρ 0 := sKill_sc α ρ m (by decide) (by decide)
    obtain ⟨x, hx, hxf⟩ := p_mHeirL ho.1 ho.2.1 60 zFU 0 (sKill α ρ m) u rfl (by unfold zFU; omega) hT2 (by have := ho.2.2.2; omega)
    refine ⟨x, ?_, hxf⟩
    rw [if_pos e, if_pos e, hw, zbindv_some, hu, zbindv_some]
    exact hx
  · rw [if_neg e, if_neg e]
    exact ⟨v, rfl, frM_rf v⟩
theorem sFall_2 {α : sA} {n b c : Nat} : ∀ (d : Nat) (ρ : sR), okB α n b ρ → ∀ k, (sSt (sFall α c d ρ) k = 2 → sSt ρ k = 2 ∨ sSt ρ k = 1) ∧ (sSt (sFall α c d ρ) k = 1 → sSt ρ k = 1) := by
  intro d
  induction d with
  | zero => intro ρ _ k; exact ⟨fun h => Or.inl h, fun h => h⟩
  | succ d ih =>
    intro ρ h k
    rw [sFall]
    by_cases e : 0 < c ∧ c < (sCh ρ).length ∧ sDf α ((sCh ρ).getD (c - 1) 0) ((sCh ρ).getD c 0) = 0
    · rw [if_pos e]
      obtain ⟨i1, i2⟩ := ih (sLeave ρ c) (okB_leave h e.2.1) k
      have hx : sSt ρ ((sCh ρ).getD c 0) = 1 := (h.2.2.1 _).mpr (getD_mem e.2.1)
      have hs : sSt (sLeave ρ c) k = if k = (sCh ρ).getD c 0 then 2 else sSt ρ k := rfl
      by_cases ek : k = (sCh ρ).getD c 0
      · rw [if_pos ek] at hs
        refine ⟨fun _ => Or.inr (ek ▸ hx), fun _ => ek ▸ hx⟩
      · rw [if_neg ek] at hs
        rw [hs] at i1 i2
        exact ⟨i1, i2⟩
    · rw [if_neg e]
      exact ⟨fun h => Or.inl h, fun h => h⟩
theorem sKill_2 {α : sA} {n : Nat} {ρ : sR} (h : okW α n ρ) (m k : Nat) (h2 : sSt (sKill α ρ m) k = 2) : sSt ρ k = 2 ∨ sSt ρ k = 1 := by
  have hs : ∀ j, sSt (sDead ρ m) j = if j = m then 3 else sSt ρ j := fun _ => rfl
  unfold sKill at h2
  split at h2
  · exact Or.inl h2
  · cases hx : sIx (sCh ρ) m with
    | none =>
      rw [hx] at h2
      have h3 : sSt (sDead ρ m) k = 2 := h2
      rw [hs] at h3
      split at h3
      · omega
      · exact Or.inl h3
    | some c =>
      rw [hx] at h2
      have h3 : sSt (sFall α c 13 (sGap (sDead ρ m) c)) k = 2 := h2
      have h4 := (sFall_2 13 _ (okB_gap h hx) k).1 h3
      have h5 : sSt (sGap (sDead ρ m) c) k = if k = m then 3 else sSt ρ k := rfl
      rw [h5] at h4
      split at h4
      · omega
      · exact h4
theorem p_mDoomed {v : zV} {α : sA} {l : sL} {ρ : sR} (h : MQ' v α l ρ) (ho : OKs α l ρ) {m : Nat} (hm : m < α 0 1) : ∃ w, (zbindv (fX10_copies 567 570 v) fun v_3 => zbindv (fX10_dies 116 570 (nI m) v_3) fun v_4 => fX10_doomed_53 zFU 116 0 0 v_4) = some (sDoomed α ρ m, w) ∧ frM v w := by
  have hM := ho.1.1.2.1
  obtain ⟨w, hw, hT⟩ := p_mTrial h ho
  obtain ⟨u, hu, hT2⟩ := p_mKillT ho.1 ho.2.1 hT hm
  refine ⟨u, ?_, hT2.2.2.2.2⟩
  rw [hw, zbindv_some, hu, zbindv_some]
  have hR := (MQ'_f ho.1 ho.2.1 h hT2.2.2.2.2).2.1
  have h120 := hT2.1.1.1 1 (by decide)
  refine lpE (fun n j b => fX10_doomed_53 n 116 b (nI j) u) (sDoomS ρ (sKill α ρ m)) (α 0 1) (fun b => some (b, u)) (fun n b => ?_) (fun n j b hj => ?_) (α 0 1) zFU 0 0 (Nat.zero_add _) (by unfold zFU; omega)
  · show fX10_doomed_53 (n + 1) 116 b (nI (α 0 1)) u = some (b, u)
    rw [fX10_doomed_53]
    dsimp only
    simp (disch := omega) only [↓reduceIte, i_0, i_1, i_2, i_3, i_4, i_5, i_6, i_7, i_8, i_9, i_10, i_11, i_12, i_13, i_14, i_15, i_16, i_17, i_18, i_19, i_20, i_21, i_22, i_23, i_24, i_25, i_26, i_27, i_28, i_29, i_30, i_31, i_32, i_33, i_34, i_35, i_36, i_37, i_38, i_39, i_40, i_41, i_42, i_43, i_44, i_45, i_46, i_47, i_48, i_49, i_50, i_51, i_52, i_53, i_54, i_55, i_56, i_57, i_58, i_59, i_60, i_61, i_62, i_63, i_91, i_93, i_97, i_98, i_99, i_100, i_101, i_102, i_103, i_104, i_122, i_150, i_200, i_255, i_305, i_600, i_729, i_999, i_1365, i_12345, i_32767, i_65536, i_100000, i_1000000, i_1103515245, zlet_eq, zbind_some, zbindv_some, ofN_nI, nI_add, pk_mul, nI_sub', nI_addg, gg_sub, nI_cl', zix_nI, rf_116_9, rf_116_10, rf_116_11, rf_116_12, rf_116_13, rf_116_14, rf_116_15, rf_116_16, rf_116_17, rf_116_18, rf_116_19, rf_116_20, rf_116_21, rf_116_22, rf_116_23, rf_116_24, rf_116_28, rf_116_29, rf_116_30, rf_116_31, rf_116_32, rf_116_33, rf_116_34, rf_116_35, rf_116_36, rf_116_37, rf_116_38, rf_116_39, rf_116_43, rf_116_49, rf_116_51, rf_116_54, rf_116_55, rf_116_56, rf_116_59, ln_127, ln_144, ln_161, ln_174, ln_187, ln_200, ln_213, ln_374, ln_535, ln_548, ln_561, ln_572, ln_577, ln_582, ln_117, ln_118, ln_119, ln_120, ln_121, ln_122, ln_123, ln_124, ln_125, ln_126, ln_565, ln_566, ln_567, ln_568, ln_569, ln_570, ln_571, ln_576, ln_600, ln_601, ln_602, ln_603, h120]
    rw [if_pos (Int32.le_refl _)]
  · show fX10_doomed_53 (n + 1) 116 b (nI j) u = fX10_doomed_53 n 116 (sDoomS ρ (sKill α ρ m) j b) (nI (j + 1)) u
    have s1 := hT2.2.2.1.2.2.2.1 j
    have s2 := ho.2.2.1.2.2.2.1 j
    have e1 := hT2.2.1.2.1 j (by omega)
    have e2 := hR.2.1 j (by omega)
    have hk := sKill_2 ho.2.2.1 m j
    unfold sDoomS
    rw [fX10_doomed_53]
    dsimp only
    simp (disch := omega) only [↓reduceIte, i_0, i_1, i_2, i_3, i_4, i_5, i_6, i_7, i_8, i_9, i_10, i_11, i_12, i_13, i_14, i_15, i_16, i_17, i_18, i_19, i_20, i_21, i_22, i_23, i_24, i_25, i_26, i_27, i_28, i_29, i_30, i_31, i_32, i_33, i_34, i_35, i_36, i_37, i_38, i_39, i_40, i_41, i_42, i_43, i_44, i_45, i_46, i_47, i_48, i_49, i_50, i_51, i_52, i_53, i_54, i_55, i_56, i_57, i_58, i_59, i_60, i_61, i_62, i_63, i_91, i_93, i_97, i_98, i_99, i_100, i_101, i_102, i_103, i_104, i_122, i_150, i_200, i_255, i_305, i_600, i_729, i_999, i_1365, i_12345, i_32767, i_65536, i_100000, i_1000000, i_1103515245, zlet_eq, zbind_some, zbindv_some, ofN_nI, nI_add, pk_mul, nI_sub', nI_addg, gg_sub, nI_cl', zix_nI, rf_116_9, rf_116_10, rf_116_11, rf_116_12, rf_116_13, rf_116_14, rf_116_15, rf_116_16, rf_116_17, rf_116_18, rf_116_19, rf_116_20, rf_116_21, rf_116_22, rf_116_23, rf_116_24, rf_116_28, rf_116_29, rf_116_30, rf_116_31, rf_116_32, rf_116_33, rf_116_34, rf_116_35, rf_116_36, rf_116_37, rf_116_38, rf_116_39, rf_116_43, rf_116_49, rf_116_51, rf_116_54, rf_116_55, rf_116_56, rf_116_59, ln_127, ln_144, ln_161, ln_174, ln_187, ln_200, ln_213, ln_374, ln_535, ln_548, ln_561, ln_572, ln_577, ln_582, ln_117, ln_118, ln_119, ln_120, ln_121, ln_122, ln_123, ln_124, ln_125, ln_126, ln_565, ln_566, ln_567, ln_568, ln_569, ln_570, ln_571, ln_576, ln_600, ln_601, ln_602, ln_603, h120, Nat.zero_add, e1, e2, nI_eq', or_0]
    rw [if_neg (nI_ge hj (by omega))]
    by_cases c1 : sSt (sKill α ρ m) j = 2
    · rw [if_pos c1]
      by_cases c2 : sSt ρ j = 2
      · rw [if_pos c2, if_neg (fun q => by omega)]
      · have c3 : sSt ρ j = 1 := (hk c1).resolve_left c2
        rw [if_neg c2, if_pos ⟨c1, c3⟩]
    · rw [if_neg c1, if_neg (fun q => c1 q.1)]
/-! scores of now -/
theorem p_scoreQ {v : zV} {α : sA} {l : sL} {ρ : sR} (h : CQ v α l ρ) (ho : OKs α l ρ) {m : Nat} (hm : m < α 0 1) : ∃ w, fX2_scoreOf 50 37 (nI m) v = some (sScore α l ρ m, w) ∧ frC v w := by
  obtain ⟨w, hw, hwa⟩ := p_scoreOf r37 ho.1 ho.2.1 h.1 h.2 (ok_13 ho.1) ho.2.2.1 hm
  exact ⟨w, hw, frC_s hwa⟩
theorem p_mScoreQ {v : zV} {α : sA} {l : sL} {ρ : sR} (h : MQ' v α l ρ) (ho : OKs α l ρ) {m : Nat} (hm : m < α 0 1) : ∃ w, fX10_scoreOf 116 567 (nI m) v = some (sScore α l ρ m, w) ∧ frM v w := by
  obtain ⟨w, hw, hwk⟩ := p_mScore ho.1 ho.2.1 h.1 (HP_0 h.2.2.1) m567 h.2.1 (ok_13 ho.1) ho.2.2.1 hm
  rw [sHp_0] at hw
  exact ⟨w, hw, frM_K hwk⟩
/-! RANK -/
def sRkP (α : sA) (l : sL) (ρ : sR) (own : Int32) (k : Nat) : Bool := decide (sSt ρ k = 0) && !decide (sScore α l ρ k ≤ own)
def sRank (α : sA) (l : sL) (ρ : sR) (m : Nat) : Nat := zcnt (sRkP α l ρ (sScore α l ρ m)) (α 0 1)
theorem p_rank {v : zV} {α : sA} {l : sL} {ρ : sR} (h : CQ v α l ρ) (ho : OKs α l ρ) {m : Nat} (hm : m < α 0 1) : ∃ w, fX4_rankOf 52 (nI m) v = some (nI (sRank α l ρ m), w) ∧ frC v w := by
  have hM := ho.1.1.2.1
  obtain ⟨w, hw, hwf⟩ := p_scoreQ h ho hm
  unfold fX4_rankOf
  rw [rf_52_1, rf_52_2, hw, zbind_some]
  have := lpR (fun n j (x : Nat) v => fX4_rankOf_18 n 52 (sScore α l ρ m) (nI x) (nI j) v) (fun k x => x + if sRkP α l ρ (sScore α l ρ m) k = true then 1 else 0) (α 0 1) (fun _ _ u => frC v u) (fun x p => p.1 = nI x ∧ frC v p.2) (fun n1 x u hf => ?_) (fun n1 j x u hj hf => ?_) (α 0 1) zFU 0 0 w (Nat.zero_add _) (by unfold zFU; omega) hwf
  · obtain ⟨⟨p1, p2⟩, h1, h2, h3⟩ := this
    subst h2
    refine ⟨p2, h1.trans ?_, h3⟩
    rw [zit_cnt (sRkP α l ρ (sScore α l ρ m)), Nat.zero_add]
    rfl
  · have hM1 := (CQ_f h hf).1.1.1.2.1
    refine ⟨(nI x, u), ?_, rfl, hf⟩
    show fX4_rankOf_18 (n1 + 1) 52 (sScore α l ρ m) (nI x) (nI (α 0 1)) u = _
    rw [fX4_rankOf_18]
    dsimp only
    rw [rf_52_0, hM1, if_pos (Int32.le_refl _)]
  · have hQ := CQ_f h hf
    have hwt := (eqC_of hQ ho).2.2.2.2.1 j hj
    obtain ⟨y, hy, hyf⟩ := p_scoreQ hQ ho hj
    show ∃ z, fX4_rankOf_18 (n1 + 1) 52 (sScore α l ρ m) (nI x) (nI j) u = fX4_rankOf_18 n1 52 (sScore α l ρ m) (nI _) (nI (j + 1)) z ∧ _
    rw [fX4_rankOf_18]
    dsimp only
    rw [rf_52_0, hQ.1.1.1.2.1, if_neg (nI_ge hj (by omega)), rf_52_2, rf_52_1, hwt]
    simp only [zbind_some, i_0, i_1, zb_eq, nI_add]
    unfold sRkP
    by_cases c1 : sSt ρ j = 0
    · rw [if_neg (show ¬ ¬ sSt ρ j = 0 from fun q => q c1), hy, zbind_some, decide_eq_true c1, Bool.true_and]
      by_cases c2 : sScore α l ρ j ≤ sScore α l ρ m
      · rw [if_pos c2, decide_eq_true c2]
        exact ⟨y, rfl, frC_tr hf hyf⟩
      · rw [if_neg c2, decide_eq_false c2]
        exact ⟨y, rfl, frC_tr hf hyf⟩
    · rw [if_pos c1, decide_eq_false c1, Bool.false_and]
      exact ⟨u, rfl, hf⟩
theorem p_mRank {v : zV} {α : sA} {l : sL} {ρ : sR} (h : MQ' v α l ρ) (ho : OKs α l ρ) {m : Nat} (hm : m < α 0 1) : ∃ w, (zbind (fX10_scoreOf 116 567 (nI m) v) fun r_4 v_3 => fX10_rank_44 zFU 116 0 r_4 0 v_3) = some (nI (sRank α l ρ m), w) ∧ frM v w := by
  have hM := ho.1.1.2.1
  obtain ⟨w, hw, hwf⟩ := p_mScoreQ h ho hm
  rw [hw, zbind_some]
  have := lpR (fun n j (x : Nat) v => fX10_rank_44 n 116 (nI x) (sScore α l ρ m) (nI j) v) (fun k x => x + if sRkP α l ρ (sScore α l ρ m) k = true then 1 else 0) (α 0 1) (fun _ _ u => frM v u) (fun x p => p.1 = nI x ∧ frM v p.2) (fun n1 x u hf => ?_) (fun n1 j x u hj hf => ?_) (α 0 1) zFU 0 0 w (Nat.zero_add _) (by unfold zFU; omega) hwf
  · obtain ⟨⟨p1, p2⟩, h1, h2, h3⟩ := this
    subst h2
    refine ⟨p2, h1.trans ?_, h3⟩
    rw [zit_cnt (sRkP α l ρ (sScore α l ρ m)), Nat.zero_add]
    rfl
  · have hM1 := (MQ'_f ho.1 ho.2.1 h hf).1.1.1 1 (by decide)
    refine ⟨(nI x, u), ?_, rfl, hf⟩
    show fX10_rank_44 (n1 + 1) 116 (nI x) (sScore α l ρ m) (nI (α 0 1)) u = _
    rw [fX10_rank_44]
    dsimp only
    simp (disch := omega) only [↓reduceIte, i_0, i_1, i_2, i_3, i_4, i_5, i_6, i_7, i_8, i_9, i_10, i_11, i_12, i_13, i_14, i_15, i_16, i_17, i_18, i_19, i_20, i_21, i_22, i_23, i_24, i_25, i_26, i_27, i_28, i_29, i_30, i_31, i_32, i_33, i_34, i_35, i_36, i_37, i_38, i_39, i_40, i_41, i_42, i_43, i_44, i_45, i_46, i_47, i_48, i_49, i_50, i_51, i_52, i_53, i_54, i_55, i_56, i_57, i_58, i_59, i_60, i_61, i_62, i_63, i_91, i_93, i_97, i_98, i_99, i_100, i_101, i_102, i_103, i_104, i_122, i_150, i_200, i_255, i_305, i_600, i_729, i_999, i_1365, i_12345, i_32767, i_65536, i_100000, i_1000000, i_1103515245, zlet_eq, zbind_some, zbindv_some, ofN_nI, nI_add, pk_mul, nI_sub', nI_addg, gg_sub, nI_cl', zix_nI, rf_116_9, rf_116_10, rf_116_11, rf_116_12, rf_116_13, rf_116_14, rf_116_15, rf_116_16, rf_116_17, rf_116_18, rf_116_19, rf_116_20, rf_116_21, rf_116_22, rf_116_23, rf_116_24, rf_116_28, rf_116_29, rf_116_30, rf_116_31, rf_116_32, rf_116_33, rf_116_34, rf_116_35, rf_116_36, rf_116_37, rf_116_38, rf_116_39, rf_116_43, rf_116_49, rf_116_51, rf_116_54, rf_116_55, rf_116_56, rf_116_59, ln_127, ln_144, ln_161, ln_174, ln_187, ln_200, ln_213, ln_374, ln_535, ln_548, ln_561, ln_572, ln_577, ln_582, ln_117, ln_118, ln_119, ln_120, ln_121, ln_122, ln_123, ln_124, ln_125, ln_126, ln_565, ln_566, ln_567, ln_568, ln_569, ln_570, ln_571, ln_576, ln_600, ln_601, ln_602, ln_603, hM1]
    rw [if_pos (Int32.le_refl _)]
  · have hQ := MQ'_f ho.1 ho.2.1 h hf
    have hM1 := hQ.1.1.1 1 (by decide)
    have hst := hQ.2.1.2.1 j (by omega)
    have hs4 := ho.2.2.1.2.2.2.1 j
    obtain ⟨y, hy, hyf⟩ := p_mScoreQ hQ ho hj
    show ∃ z, fX10_rank_44 (n1 + 1) 116 (nI x) (sScore α l ρ m) (nI j) u = fX10_rank_44 n1 116 (nI _) (sScore α l ρ m) (nI (j + 1)) z ∧ _
    rw [fX10_rank_44]
    dsimp only
    simp (disch := omega) only [↓reduceIte, i_0, i_1, i_2, i_3, i_4, i_5, i_6, i_7, i_8, i_9, i_10, i_11, i_12, i_13, i_14, i_15, i_16, i_17, i_18, i_19, i_20, i_21, i_22, i_23, i_24, i_25, i_26, i_27, i_28, i_29, i_30, i_31, i_32, i_33, i_34, i_35, i_36, i_37, i_38, i_39, i_40, i_41, i_42, i_43, i_44, i_45, i_46, i_47, i_48, i_49, i_50, i_51, i_52, i_53, i_54, i_55, i_56, i_57, i_58, i_59, i_60, i_61, i_62, i_63, i_91, i_93, i_97, i_98, i_99, i_100, i_101, i_102, i_103, i_104, i_122, i_150, i_200, i_255, i_305, i_600, i_729, i_999, i_1365, i_12345, i_32767, i_65536, i_100000, i_1000000, i_1103515245, zlet_eq, zbind_some, zbindv_some, ofN_nI, nI_add, pk_mul, nI_sub', nI_addg, gg_sub, nI_cl', zix_nI, rf_116_9, rf_116_10, rf_116_11, rf_116_12, rf_116_13, rf_116_14, rf_116_15, rf_116_16, rf_116_17, rf_116_18, rf_116_19, rf_116_20, rf_116_21, rf_116_22, rf_116_23, rf_116_24, rf_116_28, rf_116_29, rf_116_30, rf_116_31, rf_116_32, rf_116_33, rf_116_34, rf_116_35, rf_116_36, rf_116_37, rf_116_38, rf_116_39, rf_116_43, rf_116_49, rf_116_51, rf_116_54, rf_116_55, rf_116_56, rf_116_59, ln_127, ln_144, ln_161, ln_174, ln_187, ln_200, ln_213, ln_374, ln_535, ln_548, ln_561, ln_572, ln_577, ln_582, ln_117, ln_118, ln_119, ln_120, ln_121, ln_122, ln_123, ln_124, ln_125, ln_126, ln_565, ln_566, ln_567, ln_568, ln_569, ln_570, ln_571, ln_576, ln_600, ln_601, ln_602, ln_603, hM1, Nat.zero_add, hst, nI_eq']
    rw [if_neg (nI_ge hj (by omega))]
    unfold sRkP
    by_cases c1 : sSt ρ j = 0
    · rw [if_pos c1, hy, zbind_some, decide_eq_true c1, Bool.true_and]
      by_cases c2 : sScore α l ρ j ≤ sScore α l ρ m
      · rw [if_pos c2, decide_eq_true c2]
        exact ⟨y, rfl, frM_tr hf hyf⟩
      · rw [if_neg c2, decide_eq_false c2]
        exact ⟨y, rfl, frM_tr hf hyf⟩
    · rw [if_neg c1, decide_eq_false c1, Bool.false_and]
      exact ⟨u, rfl, hf⟩
/-! LEAD -/
abbrev sLt : Type := Option Nat × Option Nat × Nat
def sLeS (ρ : sR) (sc : Nat → Int32) (j : Nat) (s : sLt) : sLt := if sSt ρ j ≠ 0 then s else match s.1 with
  | none => (some j, none, s.2.2 + 1)
  | some x => if sc j ≤ sc x then (match s.2.1 with
      | none => (some x, some j, s.2.2 + 1)
      | some y => if sc j ≤ sc y then (some x, some y, s.2.2 + 1) else (some x, some j, s.2.2 + 1)) else (some j, some x, s.2.2 + 1)
def sLeV (sc : Nat → Int32) : Option Nat → Int32
  | none => 0
  | some x => sc x
def sLeF (sc : Nat → Int32) (s : sLt) : Int32 := match s.2.1 with
  | none => sLeV sc s.1
  | some y => sLeV sc s.1 - sc y
def sLead (α : sA) (l : sL) (ρ : sR) : Int32 := sLeF (sScore α l ρ) (zit (sLeS ρ (sScore α l ρ)) (α 0 1) 0 (none, none, 0))
def okLe (α : sA) (j : Nat) (s : sLt) : Prop := s.2.2 ≤ j ∧ match s.1 with
  | none => s.2.1 = none ∧ s.2.2 = 0
  | some x => x < α 0 1 ∧ match s.2.1 with
    | none => s.2.2 = 1
    | some y => y < α 0 1 ∧ 2 ≤ s.2.2
theorem okLe_S {α : sA} {ρ : sR} {sc : Nat → Int32} {j : Nat} (hj : j < α 0 1) {s : sLt} (h : okLe α j s) : okLe α (j + 1) (sLeS ρ sc j s) := by
  obtain ⟨s1, s2, s3⟩ := s
  unfold sLeS
  by_cases hc : sSt ρ j ≠ 0
  · rw [if_pos hc]
    exact ⟨Nat.le_succ_of_le h.1, h.2⟩
  · rw [if_neg hc]
    have h1 : s3 ≤ j := h.1
    cases s1 with
    | none =>
      have h2 : s3 = 0 := h.2.2
      exact ⟨by show s3 + 1 ≤ j + 1; omega, hj, by show s3 + 1 = 1; omega⟩
    | some x =>
      have hx : x < α 0 1 := h.2.1
      dsimp only
      by_cases c1 : sc j ≤ sc x
      · rw [if_pos c1]
        cases s2 with
        | none =>
          have h2 : s3 = 1 := h.2.2
          exact ⟨by show s3 + 1 ≤ j + 1; omega, hx, hj, by show 2 ≤ s3 + 1; omega⟩
        | some y =>
          have h2 : y < α 0 1 ∧ 2 ≤ s3 := h.2.2
          dsimp only
          by_cases c2 : sc j ≤ sc y
          · rw [if_pos c2]
            exact ⟨by show s3 + 1 ≤ j + 1; omega, hx, h2.1, by show 2 ≤ s3 + 1; omega⟩
          · rw [if_neg c2]
            exact ⟨by show s3 + 1 ≤ j + 1; omega, hx, hj, by show 2 ≤ s3 + 1; omega⟩
      · rw [if_neg c1]
        refine ⟨by show s3 + 1 ≤ j + 1; omega, hj, hx, ?_⟩
        show 2 ≤ s3 + 1
        cases s2 with
        | none => have h2 : s3 = 1 := h.2.2; omega
        | some y => have h2 : y < α 0 1 ∧ 2 ≤ s3 := h.2.2; omega
theorem p_lead {v : zV} {α : sA} {l : sL} {ρ : sR} (h : CQ v α l ρ) (ho : OKs α l ρ) : ∃ w, fX4_leadOfGreatest 52 v = some (sLead α l ρ, w) ∧ frC v w := by
  have hM := ho.1.1.2.1
  have hS : ∀ {u : zV} {m : Nat}, frC v u → m < α 0 1 → ∃ y, fX2_scoreOf 50 37 (nI m) u = some (sScore α l ρ m, y) ∧ frC v y := fun hf hm => by
    obtain ⟨y, hy, hyf⟩ := p_scoreQ (CQ_f h hf) ho hm
    exact ⟨y, hy, frC_tr hf hyf⟩
  unfold fX4_leadOfGreatest sLead
  generalize sScore α l ρ = sc at hS ⊢
  have := lpR (fun n j (s : sLt) v => fX4_leadOfGreatest_9 n 52 (nI s.2.2) (sLeV sc s.1) (sLeV sc s.2.1) (nI j) v) (sLeS ρ sc) (α 0 1) (fun j s u => frC v u ∧ okLe α j s) (fun s p => p.1 = sLeF sc s ∧ frC v p.2) (fun n1 s u hK => ?_) (fun n1 j s u hj hK => ?_) (α 0 1) zFU 0 (none, none, 0) v (Nat.zero_add _) (by unfold zFU; omega) ⟨frC_rf v, by decide, rfl, rfl⟩
  · obtain ⟨⟨p1, p2⟩, h1, h2, h3⟩ := this
    subst h2
    exact ⟨p2, h1, h3⟩
  · obtain ⟨hf, hok⟩ := hK
    have hM1 := (CQ_f h hf).1.1.1.2.1
    refine ⟨(sLeF sc s, u), ?_, rfl, hf⟩
    show fX4_leadOfGreatest_9 (n1 + 1) 52 (nI s.2.2) (sLeV sc s.1) (sLeV sc s.2.1) (nI (α 0 1)) u = _
    rw [fX4_leadOfGreatest_9]
    dsimp only
    rw [rf_52_0, hM1, if_pos (Int32.le_refl _)]
    obtain ⟨s1, s2, s3⟩ := s
    have h16 : s3 ≤ α 0 1 := hok.1
    unfold sLeF
    cases s2 with
    | none =>
      have h1 : s3 ≤ 1 := by
        cases s1 with
        | none => have : s3 = 0 := hok.2.2; omega
        | some x => have : s3 = 1 := hok.2.2; omega
      rw [if_neg (show ¬ (2 : Int32) ≤ nI s3 from nI_ge (b := 2) (by omega) (by decide))]
    | some y =>
      have h2 : 2 ≤ s3 := by
        cases s1 with
        | none => have : (some y : Option Nat) = none := hok.2.1; cases this
        | some x => have : y < α 0 1 ∧ 2 ≤ s3 := hok.2.2; exact this.2
      rw [if_pos (show (2 : Int32) ≤ nI s3 from nI_le (a := 2) h2 (by omega))]
      rfl
  · obtain ⟨hf, hok⟩ := hK
    have hok2 := okLe_S (ρ := ρ) (sc := sc) hj hok
    have hQ := CQ_f h hf
    have hwt := (eqC_of hQ ho).2.2.2.2.1 j hj
    obtain ⟨y, hy, hyf⟩ := hS hf hj
    show ∃ z, fX4_leadOfGreatest_9 (n1 + 1) 52 (nI s.2.2) (sLeV sc s.1) (sLeV sc s.2.1) (nI j) u = fX4_leadOfGreatest_9 n1 52 (nI (sLeS ρ sc j s).2.2) (sLeV sc (sLeS ρ sc j s).1) (sLeV sc (sLeS ρ sc j s).2.1) (nI (j + 1)) z ∧ frC v z ∧ okLe α (j + 1) (sLeS ρ sc j s)
    rw [fX4_leadOfGreatest_9]
    dsimp only
    rw [rf_52_0, hQ.1.1.1.2.1, if_neg (nI_ge hj (by omega)), rf_52_2, rf_52_1, hwt]
    simp (disch := omega) only [zbind_some, i_0, i_1, zb_eq, nI_add]
    obtain ⟨s1, s2, s3⟩ := s
    have h16 : s3 ≤ j := hok.1
    unfold sLeS at hok2 ⊢
    by_cases c1 : sSt ρ j = 0
    · rw [if_neg (show ¬ (sSt ρ j ≠ 0) from fun q => q c1)] at hok2 ⊢
      rw [if_neg (show ¬ ¬ sSt ρ j = 0 from fun q => q c1), hy, zbind_some]
      cases s1 with
      | none =>
        have h0 : s3 = 0 := hok.2.2
        subst h0
        refine ⟨y, ?_, hyf, hok2⟩
        simp only [if_pos rfl]
        rfl
      | some x =>
        dsimp only at hok2 ⊢
        have h1 : 1 ≤ s3 := by
          cases s2 with
          | none => have : s3 = 1 := hok.2.2; omega
          | some z => have : z < α 0 1 ∧ 2 ≤ s3 := hok.2.2; omega
        rw [if_neg (show ¬ nI s3 = nI 0 from nI_ne0 (by omega) (by omega))]
        show ∃ z, (if sc j ≤ sc x then _ else _) = _ ∧ _
        by_cases c2 : sc j ≤ sc x
        · simp only [if_pos c2] at hok2 ⊢
          cases s2 with
          | none =>
            have h2 : s3 = 1 := hok.2.2
            subst h2
            refine ⟨y, ?_, hyf, hok2⟩
            simp only [if_pos rfl]
            rfl
          | some z =>
            have h2 : z < α 0 1 ∧ 2 ≤ s3 := hok.2.2
            rw [if_neg (show ¬ nI s3 = nI 1 from fun q => by have := (nI_eq (by omega) (by decide)).mp q; omega)]
            show ∃ t, (if sc j ≤ sc z then _ else _) = _ ∧ _
            dsimp only at hok2 ⊢
            by_cases c3 : sc j ≤ sc z
            · simp only [if_pos c3] at hok2 ⊢
              exact ⟨y, rfl, hyf, hok2⟩
            · simp only [if_neg c3] at hok2 ⊢
              exact ⟨y, rfl, hyf, hok2⟩
        · simp only [if_neg c2] at hok2 ⊢
          exact ⟨y, rfl, hyf, hok2⟩
    · rw [if_pos (show sSt ρ j ≠ 0 from c1)] at hok2 ⊢
      rw [if_pos c1]
      exact ⟨u, rfl, hf, hok2⟩
theorem p_mLead {v : zV} {α : sA} {l : sL} {ρ : sR} (h : MQ' v α l ρ) (ho : OKs α l ρ) : ∃ w, fX10_lead_11 zFU 116 (-1) (-1) 0 v = some (sLead α l ρ, w) ∧ frM v w := by
  have hM := ho.1.1.2.1
  have hS : ∀ {u : zV} {m : Nat}, frM v u → m < α 0 1 → ∃ y, fX10_scoreOf 116 567 (nI m) u = some (sScore α l ρ m, y) ∧ frM v y := fun hf hm => by
    obtain ⟨y, hy, hyf⟩ := p_mScoreQ (MQ'_f ho.1 ho.2.1 h hf) ho hm
    exact ⟨y, hy, frM_tr hf hyf⟩
  unfold sLead
  generalize sScore α l ρ = sc at hS ⊢
  have := lpR (fun n j (s : sLt) v => fX10_lead_11 n 116 (oI s.1) (oI s.2.1) (nI j) v) (sLeS ρ sc) (α 0 1) (fun j s u => frM v u ∧ okLe α j s) (fun s p => p.1 = sLeF sc s ∧ frM v p.2) (fun n1 s u hK => ?_) (fun n1 j s u hj hK => ?_) (α 0 1) zFU 0 (none, none, 0) v (Nat.zero_add _) (by unfold zFU; omega) ⟨frM_rf v, by decide, rfl, rfl⟩
  · obtain ⟨⟨p1, p2⟩, h1, h2, h3⟩ := this
    subst h2
    exact ⟨p2, h1, h3⟩
  · obtain ⟨hf, hok⟩ := hK
    have hM1 := (MQ'_f ho.1 ho.2.1 h hf).1.1.1 1 (by decide)
    show ∃ q, fX10_lead_11 (n1 + 1) 116 (oI s.1) (oI s.2.1) (nI (α 0 1)) u = some q ∧ _
    rw [fX10_lead_11]
    dsimp only
    simp (disch := omega) only [↓reduceIte, i_0, i_1, i_2, i_3, i_4, i_5, i_6, i_7, i_8, i_9, i_10, i_11, i_12, i_13, i_14, i_15, i_16, i_17, i_18, i_19, i_20, i_21, i_22, i_23, i_24, i_25, i_26, i_27, i_28, i_29, i_30, i_31, i_32, i_33, i_34, i_35, i_36, i_37, i_38, i_39, i_40, i_41, i_42, i_43, i_44, i_45, i_46, i_47, i_48, i_49, i_50, i_51, i_52, i_53, i_54, i_55, i_56, i_57, i_58, i_59, i_60, i_61, i_62, i_63, i_91, i_93, i_97, i_98, i_99, i_100, i_101, i_102, i_103, i_104, i_122, i_150, i_200, i_255, i_305, i_600, i_729, i_999, i_1365, i_12345, i_32767, i_65536, i_100000, i_1000000, i_1103515245, zlet_eq, zbind_some, zbindv_some, ofN_nI, nI_add, pk_mul, nI_sub', nI_addg, gg_sub, nI_cl', zix_nI, rf_116_9, rf_116_10, rf_116_11, rf_116_12, rf_116_13, rf_116_14, rf_116_15, rf_116_16, rf_116_17, rf_116_18, rf_116_19, rf_116_20, rf_116_21, rf_116_22, rf_116_23, rf_116_24, rf_116_28, rf_116_29, rf_116_30, rf_116_31, rf_116_32, rf_116_33, rf_116_34, rf_116_35, rf_116_36, rf_116_37, rf_116_38, rf_116_39, rf_116_43, rf_116_49, rf_116_51, rf_116_54, rf_116_55, rf_116_56, rf_116_59, ln_127, ln_144, ln_161, ln_174, ln_187, ln_200, ln_213, ln_374, ln_535, ln_548, ln_561, ln_572, ln_577, ln_582, ln_117, ln_118, ln_119, ln_120, ln_121, ln_122, ln_123, ln_124, ln_125, ln_126, ln_565, ln_566, ln_567, ln_568, ln_569, ln_570, ln_571, ln_576, ln_600, ln_601, ln_602, ln_603, hM1]
    rw [if_pos (Int32.le_refl _)]
    obtain ⟨s1, s2, s3⟩ := s
    unfold fX10_lead_102 sLeF
    cases s1 with
    | none =>
      have h2 : s2 = none := hok.2.1
      subst h2
      rw [if_pos (show oI (none, (none : Option Nat), s3).1 = (-1 : Int32) from rfl)]
      exact ⟨_, rfl, rfl, hf⟩
    | some x =>
      have hx : x < α 0 1 := hok.2.1
      dsimp only
      rw [oI_some, if_neg (show ¬ nI x = -1 from fun q => by rw [show (-1 : Int32) = -nI 1 from rfl, ng_eq (by omega) (by decide) (by decide)] at q; exact q), rf_116_35]
      obtain ⟨y, hy, hyf⟩ := hS hf hx
      cases s2 with
      | none =>
        rw [oI_none, if_pos (show -nI 1 = (-1 : Int32) from rfl), hy, zbind_some]
        exact ⟨_, rfl, rfl, hyf⟩
      | some z =>
        have hz : z < α 0 1 ∧ 2 ≤ s3 := hok.2.2
        obtain ⟨t, ht, htf⟩ := hS hyf hz.1
        rw [oI_some, if_neg (show ¬ nI z = -1 from fun q => by rw [show (-1 : Int32) = -nI 1 from rfl, ng_eq (by omega) (by decide) (by decide)] at q; exact q), hy, zbind_some, ht, zbind_some]
        exact ⟨_, rfl, rfl, htf⟩
  · obtain ⟨hf, hok⟩ := hK
    have hok2 := okLe_S (ρ := ρ) (sc := sc) hj hok
    have hQ := MQ'_f ho.1 ho.2.1 h hf
    have hM1 := hQ.1.1.1 1 (by decide)
    have hst := hQ.2.1.2.1 j (by omega)
    have hs4 := ho.2.2.1.2.2.2.1 j
    show ∃ z, fX10_lead_11 (n1 + 1) 116 (oI s.1) (oI s.2.1) (nI j) u = fX10_lead_11 n1 116 (oI (sLeS ρ sc j s).1) (oI (sLeS ρ sc j s).2.1) (nI (j + 1)) z ∧ frM v z ∧ okLe α (j + 1) (sLeS ρ sc j s)
    rw [fX10_lead_11]
    dsimp only
    simp (disch := omega) only [↓reduceIte, i_0, i_1, i_2, i_3, i_4, i_5, i_6, i_7, i_8, i_9, i_10, i_11, i_12, i_13, i_14, i_15, i_16, i_17, i_18, i_19, i_20, i_21, i_22, i_23, i_24, i_25, i_26, i_27, i_28, i_29, i_30, i_31, i_32, i_33, i_34, i_35, i_36, i_37, i_38, i_39, i_40, i_41, i_42, i_43, i_44, i_45, i_46, i_47, i_48, i_49, i_50, i_51, i_52, i_53, i_54, i_55, i_56, i_57, i_58, i_59, i_60, i_61, i_62, i_63, i_91, i_93, i_97, i_98, i_99, i_100, i_101, i_102, i_103, i_104, i_122, i_150, i_200, i_255, i_305, i_600, i_729, i_999, i_1365, i_12345, i_32767, i_65536, i_100000, i_1000000, i_1103515245, zlet_eq, zbind_some, zbindv_some, ofN_nI, nI_add, pk_mul, nI_sub', nI_addg, gg_sub, nI_cl', zix_nI, rf_116_9, rf_116_10, rf_116_11, rf_116_12, rf_116_13, rf_116_14, rf_116_15, rf_116_16, rf_116_17, rf_116_18, rf_116_19, rf_116_20, rf_116_21, rf_116_22, rf_116_23, rf_116_24, rf_116_28, rf_116_29, rf_116_30, rf_116_31, rf_116_32, rf_116_33, rf_116_34, rf_116_35, rf_116_36, rf_116_37, rf_116_38, rf_116_39, rf_116_43, rf_116_49, rf_116_51, rf_116_54, rf_116_55, rf_116_56, rf_116_59, ln_127, ln_144, ln_161, ln_174, ln_187, ln_200, ln_213, ln_374, ln_535, ln_548, ln_561, ln_572, ln_577, ln_582, ln_117, ln_118, ln_119, ln_120, ln_121, ln_122, ln_123, ln_124, ln_125, ln_126, ln_565, ln_566, ln_567, ln_568, ln_569, ln_570, ln_571, ln_576, ln_600, ln_601, ln_602, ln_603, hM1, Nat.zero_add, hst, nI_eq']
    rw [if_neg (nI_ge hj (by omega))]
    obtain ⟨s1, s2, s3⟩ := s
    unfold sLeS at hok2 ⊢
    by_cases c1 : sSt ρ j = 0
    · rw [if_neg (show ¬ (sSt ρ j ≠ 0) from fun q => q c1)] at hok2 ⊢
      rw [if_pos c1]
      cases s1 with
      | none =>
        have h2 : s2 = none := hok.2.1
        subst h2
        dsimp only at hok2 ⊢
        rw [oI_none, if_pos rfl]
        exact ⟨u, rfl, hf, hok2⟩
      | some x =>
        have hx : x < α 0 1 := hok.2.1
        obtain ⟨y, hy, hyf⟩ := hS hf hj
        obtain ⟨t, ht, htf⟩ := hS hyf hx
        dsimp only at hok2 ⊢
        rw [oI_some, if_neg (show ¬ nI x = -nI 1 from fun q => by rw [ng_eq (by omega) (by decide) (by decide)] at q; exact q), hy, zbind_some, ht, zbind_some]
        by_cases c2 : sc j ≤ sc x
        · simp only [if_pos c2] at hok2 ⊢
          cases s2 with
          | none =>
            rw [oI_none, if_pos rfl]
            exact ⟨t, rfl, htf, hok2⟩
          | some z =>
            have hz : z < α 0 1 ∧ 2 ≤ s3 := hok.2.2
            obtain ⟨y2, hy2, hyf2⟩ := hS htf hj
            obtain ⟨t2, ht2, htf2⟩ := hS hyf2 hz.1
            rw [oI_some, if_neg (show ¬ nI z = -nI 1 from fun q => by rw [ng_eq (by omega) (by decide) (by decide)] at q; exact q), hy2, zbind_some, ht2, zbind_some]
            dsimp only at hok2 ⊢
            by_cases c3 : sc j ≤ sc z
            · simp only [if_pos c3] at hok2 ⊢
              exact ⟨t2, rfl, htf2, hok2⟩
            · simp only [if_neg c3] at hok2 ⊢
              exact ⟨t2, rfl, htf2, hok2⟩
        · simp only [if_neg c2] at hok2 ⊢
          exact ⟨t, rfl, htf, hok2⟩
    · rw [if_pos (show sSt ρ j ≠ 0 from c1)] at hok2 ⊢
      rw [if_neg c1]
      exact ⟨u, rfl, hf, hok2⟩
end
