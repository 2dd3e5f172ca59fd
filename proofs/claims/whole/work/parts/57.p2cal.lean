/-! the class's calendar -/
section
def rowAt (i : Nat) : Prop := isRow i ∧ 37 ≤ i ∧ (i + 5 < 51 ∨ 51 < i)
/-- the class's academy and law -/
def CE (v : zV) (α : sA) (l : sL) : Prop := pCA 3 v α ∧ pCL v l
def onlyC (i : Nat) (v w : zV) : Prop := ∀ a, (a < i ∨ i + 5 < a) → a ≠ 25 → a ≠ 26 → a ≠ 51 → w a = v a
theorem onlyC_rf (i : Nat) (v : zV) : onlyC i v v := fun _ _ _ _ _ => rfl
theorem onlyC_tr {i : Nat} {v w u : zV} (h1 : onlyC i v w) (h2 : onlyC i w u) : onlyC i v u := fun a h3 h4 h5 h6 => (h2 a h3 h4 h5 h6).trans (h1 a h3 h4 h5 h6)
theorem onlyR_C {i : Nat} {v w : zV} (h : onlyR i v w) : onlyC i v w := fun a h3 _ _ _ => h a h3
theorem CE_C {i : Nat} (hi : rowAt i) {v w : zV} {α : sA} {l : sL} (h : CE v α l) (e : onlyC i v w) : CE w α l := by
  have h37 := hi.2.1
  exact ⟨CA_fr h.1 (fun a h1 h2 => e a (by omega) (by omega) (by omega) (by omega)), CL_fr h.2 (e 23 (by omega) (by decide) (by decide) (by decide)) (e 24 (by omega) (by decide) (by decide) (by decide))⟩
theorem RC_sc51 {i : Nat} (hi : rowAt i) {v w : zV} {ρ : sR} (h : RC i v ρ) (e : ∀ a, a ≠ 25 → a ≠ 26 → a ≠ 51 → w a = v a) : RC i w ρ := by
  have h37 := hi.2.1
  have h51 := hi.2.2
  exact RC_fr h (fun a h1 h2 => e a (by omega) (by omega) (by omega))
theorem okW_lt {α : sA} {n : Nat} {ρ : sR} (h : okW α n ρ) {m : Nat} (hm : m ∈ sCh ρ) : m < α 0 1 := by
  have h1 := (h.2.2.1 m).mpr hm
  rcases Nat.lt_or_ge m (α 0 1) with h2 | h2
  · exact h2
  · have := (h.2.2.2.2.1 m h2).1
    omega
theorem okW_C {α : sA} (ha : okA α) {n : Nat} (hn : n ≤ 13) {ρ : sR} (h : okW α n ρ) : okC ρ := ⟨by have := h.1; omega, fun m hm => by have := okW_lt h hm; have := ha.1.2.1; omega, h.2.2.2.1, by have := h.2.2.2.2.2.1.2; omega⟩
theorem getD_mem {l : List Nat} {c : Nat} (h : c < l.length) : l.getD c 0 ∈ l := by
  rw [List.getD_eq_getElem?_getD, List.getElem?_eq_getElem h]
  exact List.getElem_mem h
theorem p_setFact {k : Nat} (hk : k < 7) (x : Int32) (v : zV) : fX5_setFact 23 (-nI (7 + k)) x v = some (zup v 26 k x) := by
  unfold fX5_setFact
  rw [show (-7 : Int32) = -nI 7 from rfl, gg_sub (by omega), rf_23_2, show 7 + k - 7 = k by omega, p_set (by rw [ln_26]; exact hk)]
  rfl
theorem p_scoreOf {i : Nat} (hi : rowAt i) {α : sA} {l : sL} (ha : okA α) (hl : okL l) {v : zV} {ρ : sR} (hE : CE v α l) (h : RC i v ρ) {n : Nat} (hn : n ≤ 13) (ho : okW α n ρ) {m : Nat} (hm : m < α 0 1) : ∃ w, fX2_scoreOf 50 i (nI m) v = some (sScore α l ρ m, w) ∧ ∀ a, a ≠ 25 → a ≠ 26 → w a = v a := by
  have hoC := okW_C ha hn ho
  have h13 := hoC.1
  have hM := ha.1.2.1
  have hy := ho.2.2.2.2.2.1
  have h37 := hi.2.1
  have hlast := p_last hi.1 h hoC
  obtain ⟨⟨hy0, hlen, -⟩, -, -, hwt, -, -⟩ := id h
  unfold fX2_scoreOf sScore
  rw [hlen]
  rcases Nat.eq_zero_or_pos (sCh ρ).length with h0 | h0
  · rw [h0, if_neg (by decide), if_pos rfl]
    exact ⟨v, rfl, fun _ _ _ => rfl⟩
  · have hL : sLast ρ < α 0 1 := okW_lt ho (getD_mem (by omega))
    have hdl := sDf_le α m (sLast ρ)
    rw [if_pos (show (1 : Int32) ≤ nI (sCh ρ).length from nI_le (a := 1) h0 (by omega)), if_neg (by omega), hlast, show sLastO ρ = some (sLast ρ) by unfold sLastO; rw [if_neg (by omega)], rf_50_0, rf_50_1]
    simp only [zbind_some, oI_some]
    rw [p_differing hE.1 ha hm hL]
    simp only [zbind_some]
    rw [show (-7 : Int32) = -nI (7 + 0) from rfl, p_setFact (by decide)]
    simp only [zbindv_some]
    rw [p_up_a _ _ _ (show (3 : Nat) ≠ 26 by decide), hE.1.1.1, nI_sub' hdl, show (-8 : Int32) = -nI (7 + 1) from rfl, p_setFact (by decide)]
    simp only [zbindv_some]
    rw [hi.1.2.2.1, p_get (by rw [hi.1.2.2.2.2.2.2.2.1]; omega), p_up_a _ _ _ (show i + 3 ≠ 26 by omega), p_up_a _ _ _ (show i + 3 ≠ 26 by omega), hwt m (by omega)]
    simp only [zbind_some]
    rw [show (-9 : Int32) = -nI (7 + 2) from rfl, p_setFact (by decide)]
    simp only [zbindv_some]
    rw [p_up_a _ _ _ (show i ≠ 26 by omega), p_up_a _ _ _ (show i ≠ 26 by omega), p_up_a _ _ _ (show i ≠ 26 by omega), hy0]
    have hA3 : pCA 3 (zup (zup (zup v 26 0 (nI (sDf α m (sLast ρ)))) 26 1 (nI (α 0 0 - sDf α m (sLast ρ)))) 26 2 (nI (sWt ρ m))) α := CA_fr hE.1 (fun a h1 h2 => by rw [p_up_a _ _ _ (by omega), p_up_a _ _ _ (by omega), p_up_a _ _ _ (by omega)])
    rw [p_ageIn hA3 ha hm hy.1]
    simp only [zbind_some]
    rw [show (-10 : Int32) = -nI (7 + 3) from rfl, p_setFact (by decide)]
    simp only [zbindv_some]
    rw [show (-11 : Int32) = -nI (7 + 4) from rfl, p_setFact (by decide)]
    simp only [zbindv_some]
    simp (disch := omega) only [p_up_a]
    rw [hy0, show (-12 : Int32) = -nI (7 + 5) from rfl, p_setFact (by decide)]
    simp only [zbindv_some]
    simp (disch := omega) only [p_up_a]
    rw [hlen, show (-13 : Int32) = -nI (7 + 6) from rfl, p_setFact (by decide)]
    simp only [zbindv_some]
    generalize hu : zup (zup (zup (zup (zup (zup (zup v 26 0 (nI (sDf α m (sLast ρ)))) 26 1 (nI (α 0 0 - sDf α m (sLast ρ)))) 26 2 (nI (sWt ρ m))) 26 3 (nI (α 2 m + sSc ρ 0 - 1))) 26 4 (nI m)) 26 5 (nI (sSc ρ 0))) 26 6 (nI (sCh ρ).length) = u
    have hua : ∀ a, a ≠ 26 → u a = v a := fun a h => by rw [← hu]; simp (disch := omega) only [p_up_a]
    have huf : ∀ x, x < 7 → u 26 x = sFact α ρ m x := fun x hx => by
      have hx7 : x = 0 ∨ x = 1 ∨ x = 2 ∨ x = 3 ∨ x = 4 ∨ x = 5 ∨ x = 6 := by omega
      rw [← hu]
      rcases hx7 with rfl | rfl | rfl | rfl | rfl | rfl | rfl <;> simp [p_up, sFact]
    obtain ⟨w, hw, hwa⟩ := p_value hl (sFact α ρ m) (v := u) (CL_fr hE.2 (hua 23 (by decide)) (hua 24 (by decide))) huf
    rw [hw]
    simp only [zbind_some]
    have hwv : ∀ a, a ≠ 25 → a ≠ 26 → w a = v a := fun a h1 h2 => (hwa a h1).trans (hua a h2)
    rw [hwv i (by omega) (by omega), hy0, p_praiseTold (CA_fr hE.1 (fun a h1 h2 => hwv a (by omega) (by omega))) ha m (sSc ρ 0) (by omega) (by omega)]
    simp only [zbind_some]
    rw [p_praiseAside hi.1 (RC_fr h (fun a h1 h2 => hwv a (by omega) (by omega))) (by omega)]
    exact ⟨w, rfl, hwv⟩
theorem p_scoreAll {i : Nat} (hi : rowAt i) {α : sA} {l : sL} (ha : okA α) (hl : okL l) {v : zV} {ρ : sR} (hE : CE v α l) (h : RC i v ρ) {n : Nat} (hn : n ≤ 13) (ho : okW α n ρ) : ∃ w, fX2_scoreAll 50 i v = some w ∧ (∀ a, a ≠ 25 → a ≠ 26 → a ≠ 51 → w a = v a) ∧ ∀ m, m < α 0 1 → sSt ρ m = 0 → w 51 m = sScore α l ρ m := by
  have hoC := okW_C ha hn ho
  have hM := ha.1.2.1
  unfold fX2_scoreAll
  refine lpR (σ := Unit) (fun n j _ v => fX2_scoreAll_2 n 50 i (nI j) v) (fun _ s => s) (α 0 1) (fun j _ w => (∀ a, a ≠ 25 → a ≠ 26 → a ≠ 51 → w a = v a) ∧ ∀ m, m < j → sSt ρ m = 0 → w 51 m = sScore α l ρ m) (fun _ w => (∀ a, a ≠ 25 → a ≠ 26 → a ≠ 51 → w a = v a) ∧ ∀ m, m < α 0 1 → sSt ρ m = 0 → w 51 m = sScore α l ρ m) (fun n s w hK => ?_) (fun n j s w hj hK => ?_) (α 0 1) zFU 0 () v (Nat.zero_add _) (by unfold zFU; omega) ⟨fun _ _ _ _ => rfl, fun m hm => absurd hm (Nat.not_lt_zero m)⟩
  · refine ⟨w, ?_, hK⟩
    show fX2_scoreAll_2 (n + 1) 50 i (nI (α 0 1)) w = some w
    rw [fX2_scoreAll_2]
    dsimp only
    rw [rf_50_0, hK.1 3 (by decide) (by decide) (by decide), hE.1.1.2.1, if_pos (Int32.le_refl _)]
  · show ∃ u, fX2_scoreAll_2 (n + 1) 50 i (nI j) w = fX2_scoreAll_2 n 50 i (nI (j + 1)) u ∧ _
    have hEw : CE w α l := ⟨CA_fr hE.1 (fun a h1 h2 => hK.1 a (by omega) (by omega) (by omega)), CL_fr hE.2 (hK.1 23 (by decide) (by decide) (by decide)) (hK.1 24 (by decide) (by decide) (by decide))⟩
    have hRw : RC i w ρ := RC_sc51 hi h hK.1
    rw [fX2_scoreAll_2]
    dsimp only
    rw [rf_50_0, rf_50_2, hEw.1.1.2.1, if_neg (nI_ge hj (by omega)), p_isWaiting hi.1 hRw hoC (by omega), nI_1]
    simp only [zbind_some, i_0, i_1, zb_eq]
    by_cases hc : sSt ρ j = 0
    · rw [if_neg (fun q => q hc)]
      obtain ⟨u, hu, hua⟩ := p_scoreOf hi ha hl hEw hRw hn ho hj
      rw [hu]
      simp only [zbind_some]
      rw [p_set (by rw [ln_51]; omega)]
      simp only [zbindv_some]
      refine ⟨_, rfl, fun a h1 h2 h3 => ?_, fun m hm hs => ?_⟩
      · rw [p_up_a _ _ _ h3, hua a h1 h2, hK.1 a h1 h2 h3]
      · rw [p_up]
        by_cases e : m = j
        · rw [if_pos ⟨rfl, e⟩, e]
        · rw [if_neg (fun q => e q.2), hua 51 (by decide) (by decide)]
          exact hK.2 m (by omega) hs
    · rw [if_pos hc]
      exact ⟨w, rfl, hK.1, fun m hm hs => hK.2 m (by rcases Nat.lt_or_ge m j with h | h; exact h; exact absurd (show sSt ρ j = 0 by rw [show j = m by omega]; exact hs) hc) hs⟩
theorem p_eldest {i : Nat} (hi : rowAt i) {α : sA} (ha : okA α) {v : zV} {ρ : sR} (hE : pCA 3 v α) (h : RC i v ρ) {n : Nat} (hn : n ≤ 13) (ho : okW α n ρ) : fX2_eldest 50 i v = some (oI (sEld α ρ), v) := by
  have hoC := okW_C ha hn ho
  have hM := ha.1.2.1
  unfold fX2_eldest
  refine lpI (fun n j (e : Option Nat) => fX2_eldest_4 n 50 i (oI e) (nI j) v) (sEldS α ρ) (α 0 1) (fun e => some (oI e, v)) (fun j e => ∀ m, e = some m → m < α 0 1) (fun n s hI => ?_) (fun n j s hj hI => ?_) (α 0 1) zFU 0 none (Nat.zero_add _) (by unfold zFU; omega) (fun m hm => by cases hm)
  · show fX2_eldest_4 (n + 1) 50 i (oI s) (nI (α 0 1)) v = _
    rw [fX2_eldest_4]
    dsimp only
    rw [rf_50_0, hE.1.2.1, if_pos (Int32.le_refl _)]
  · have hI2 : ∀ m, sEldS α ρ j s = some m → m < α 0 1 := by
      intro m hm
      unfold sEldS at hm
      split at hm
      · cases hm; exact hj
      · exact hI m hm
    refine ⟨?_, hI2⟩
    show fX2_eldest_4 (n + 1) 50 i (oI s) (nI j) v = fX2_eldest_4 n 50 i (oI (sEldS α ρ j s)) (nI (j + 1)) v
    rw [fX2_eldest_4]
    dsimp only
    rw [rf_50_0, hE.1.2.1, if_neg (nI_ge hj (by omega)), p_isWaiting hi.1 h hoC (by omega), nI_1]
    simp only [zbind_some, i_0, i_1, zb_eq]
    unfold sEldS
    by_cases hc : sSt ρ j = 0
    · rw [if_neg (show ¬ ¬ sSt ρ j = 0 from fun q => q hc)]
      cases s with
      | none =>
        rw [oI_none, if_pos rfl, if_pos ⟨hc, Or.inl rfl⟩]
        rfl
      | some m =>
        have hm := hI m rfl
        have g1 := ha.2.2.1 m hm
        have g2 := ha.2.2.1 j hj
        rw [oI_some, if_neg (show ¬ nI m = -nI 1 from fun q => by rw [ng_eq (by omega) (by decide) (by decide)] at q; exact q), rf_3_8, p_get (by rw [ln_5]; omega)]
        simp only [zbind_some]
        rw [p_get (by rw [ln_5]; omega)]
        simp only [zbind_some]
        rw [hE.2.2.1 m hm, hE.2.2.1 j hj]
        simp (disch := omega) only [nI_le']
        by_cases e : α 2 j ≤ α 2 m
        · rw [if_pos e, if_neg (fun q => by rcases q.2 with h | h; cases h; exact absurd (show α 2 m < α 2 j from h) (by omega))]
          rfl
        · rw [if_neg e, if_pos ⟨hc, Or.inr (show α 2 m < α 2 j by omega)⟩]
          rfl
    · rw [if_pos hc, if_neg (fun q => hc q.1)]
theorem p_greatest {i : Nat} (hi : rowAt i) {α : sA} (ha : okA α) {v : zV} {ρ : sR} (hE : pCA 3 v α) (h : RC i v ρ) {n : Nat} (hn : n ≤ 13) (ho : okW α n ρ) (sc : Nat → Int32) (hsc : ∀ m, m < α 0 1 → sSt ρ m = 0 → v 51 m = sc m) : fX2_greatest 50 i v = some (oI (sGre α ρ sc), v) := by
  have hoC := okW_C ha hn ho
  have hM := ha.1.2.1
  unfold fX2_greatest
  refine lpE (fun n j (s : Option Nat × Int32) => fX2_greatest_7 n 50 i (oI s.1) s.2 (nI j) v) (sGreS ρ sc) (α 0 1) (fun s => some (oI s.1, v)) (fun n s => ?_) (fun n j s hj => ?_) (α 0 1) zFU 0 (none, 0) (Nat.zero_add _) (by unfold zFU; omega)
  · show fX2_greatest_7 (n + 1) 50 i (oI s.1) s.2 (nI (α 0 1)) v = _
    rw [fX2_greatest_7]
    dsimp only
    rw [rf_50_0, hE.1.2.1, if_pos (Int32.le_refl _)]
  · show fX2_greatest_7 (n + 1) 50 i (oI s.1) s.2 (nI j) v = fX2_greatest_7 n 50 i (oI (sGreS ρ sc j s).1) (sGreS ρ sc j s).2 (nI (j + 1)) v
    rw [fX2_greatest_7]
    dsimp only
    rw [rf_50_0, rf_50_2, hE.1.2.1, if_neg (nI_ge hj (by omega)), p_get (by rw [ln_51]; omega)]
    simp only [zbind_some]
    rw [p_isWaiting hi.1 h hoC (by omega), nI_1]
    simp only [zbind_some, i_0, i_1, zb_eq]
    unfold sGreS
    by_cases hc : sSt ρ j = 0
    · rw [if_neg (show ¬ ¬ sSt ρ j = 0 from fun q => q hc), if_neg (show ¬ (sSt ρ j ≠ 0) from fun q => q hc), hsc j hj hc]
      by_cases e : s.2 ≤ sc j
      · rw [if_pos e, if_pos e]
        by_cases e2 : sc j ≤ s.2
        · rw [if_pos e2, if_pos e2]
          rfl
        · rw [if_neg e2, if_neg e2]
          rfl
      · rw [if_neg e, if_neg e]
    · rw [if_pos hc, if_pos hc]
theorem p_choose {i : Nat} (hi : rowAt i) {α : sA} (ha : okA α) {v : zV} {ρ : sR} (hE : pCA 3 v α) (h : RC i v ρ) {n : Nat} (hn : n ≤ 13) (ho : okW α n ρ) (sc : Nat → Int32) (hsc : ∀ m, m < α 0 1 → sSt ρ m = 0 → v 51 m = sc m) : fX2_choose 50 i v = some (oI (sChoose α ρ sc), v) := by
  have hoC := okW_C ha hn ho
  have h13 := hoC.1
  unfold fX2_choose sChoose
  rw [h.1.2.1]
  rcases Nat.eq_zero_or_pos (sCh ρ).length with h0 | h0
  · rw [h0, if_neg (by decide), if_pos rfl, p_eldest hi ha hE h hn ho]
    rfl
  · rw [if_pos (show (1 : Int32) ≤ nI (sCh ρ).length from nI_le (a := 1) h0 (by omega)), if_neg (by omega), p_greatest hi ha hE h hn ho sc hsc]
    rfl
end
