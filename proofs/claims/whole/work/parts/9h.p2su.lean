/-! WHAT CHANGES THE STATE, call by call -/
section
theorem case_13 {v : zV} (hInv : sInv v) (p1 : Int32) : ∃ w, fLc_13 p1 v = some w ∧ sInv w := by
  obtain ⟨α, l, β, ρ, ρb, im, tp, pl, r0, r1, hs, hI, hM⟩ := hInv
  have ha := hs.1
  have hl := hs.2.1
  have hbk := hs.2.2.1
  have hQ : CQ v α l ρ := ⟨hI.1, hI.2.2.1⟩
  have hO : OKs α l ρ := ⟨ha, hl, hs.2.2.2.1.1, hs.2.2.2.1.2⟩
  have hi := hs.2.2.2.2.2.2.1.1
  have hy := hs.2.2.2.1.2
  have oC : okC ρ := okW_C ha (ok_13 ha) hO.2.2.1
  have q1 : v 3 1 = nI (α 0 1) := hI.1.1.1.2.1
  have q0 : v 3 0 = nI (α 0 0) := hI.1.1.1.1
  have M16 : α 0 1 ≤ 16 := ha.1.2.1
  have Q6 : α 0 0 ≤ 6 := ha.1.1
  show ∃ w, zTail (zcatch (fX9_years 0 p1 v) 603 none (some 1)) (fX10_years 116 p1) = some w ∧ sInv w
  by_cases h0 : inB p1 1 60
  case neg =>
    exact tl_N (z1 := 1) (y := 1) (z := 0) hs hI hM (by decide) (by unfold fX9_years; rw [pwN (x := p1) (lo := 1) (hi := 60) (a := 1) (b := 60) (by decide) (by decide) rfl rfl h0, zbind_some, pneedN, zbx_2]) (by decide) ⟨fun h => absurd h (by decide), fun _ => rfl⟩ (fun v2 b2 => by
      obtain ⟨g0, g1, g2, gQ, gD, gE⟩ := qM0 hs b2
      refine ⟨_, ?_, rfM_up v2 1 1⟩
      unfold fX10_years
      rw [zlet_eq, pinN (x := p1) (lo := 1) (hi := 60) (a := 1) (b := 60) (by decide) (by decide) rfl rfl h0, zbind_some, if_pos (show (0 : Int32) = 0 from rfl), pb1_11 g0, zbind_some, if_neg (show ¬ (1 : Int32) = 0 by decide)]
      rfl)
  obtain ⟨N, n1, n60, rfl⟩ := id h0
  obtain ⟨d, d1, d2, d3⟩ : ∃ d, d ≤ N ∧ (d = N ∨ sSc ρ 0 + d = 200) ∧ sSc ρ 0 + d ≤ 200 := by
    by_cases c : sSc ρ 0 + N ≤ 200
    · exact ⟨N, by omega, by omega, by omega⟩
    · exact ⟨200 - sSc ρ 0, by omega, by omega, by omega⟩
  obtain ⟨u, hu, huR, huo⟩ := p_yearsL ha hl N n60 d zFU 0 ρ v (by omega) (by omega) d3 (by unfold zFU; omega) hI.1 hI.2.2.1 hO.2.2.1
  obtain ⟨k1, k2⟩ := okR_go (l := l) ha d hO.2.2.1 (by omega)
  have hs' : okS α l β (sGo α l d ρ) ρb im tp := ⟨ha, hl, hbk, ⟨k1, by omega⟩, hs.2.2.2.2.1, (by
    obtain ⟨e, e1, e2, e3⟩ := hs.2.2.2.2.2.1
    exact ⟨e + d, by rw [sGo_add, ← e1], by omega, e3⟩), hs.2.2.2.2.2.2⟩
  obtain ⟨e, e1, e2, e3⟩ := hs.2.2.2.2.2.1
  refine tl_G hs hs' hM (v1 := u) (r := nI (sSc ρ 0 + d)) (by unfold fX9_years; rw [pwY (x := (nI N)) (lo := 1) (hi := 60) (a := 1) (b := 60) (by decide) (by decide) rfl rfl h0, zbind_some, pneedY, zbx_0]; exact hu) (fun a g1 g2 => huo a (by omega) (by omega) (by omega) (by omega)) (IC_row hi hI (fun a g1 g2 g3 g4 g5 => huo a (by omega) g2 g3 (by omega)) huR (RC_fr hI.2.2.2.1 (fun a g1 g2 => huo a (by omega) (by omega) (by omega) (by omega)))) (fun v2 b2 => ?_)
  obtain ⟨g0, g1, g2, gQ, gD, gE⟩ := qM0 hs b2
  obtain ⟨w, hw, hR2, h41, hwa, hwk⟩ := p_mYearsL ha hl N n60 d zFU 0 ρ (sSc ρ 0 - sSc ρb 0) (zup v2 116 0 0) (by omega) (by omega) d3 (by unfold zFU; omega) gQ.1 gQ.2.2 gQ.2.1 hO.2.2.1 (by rw [p_up_n _ _ (Or.inr (by decide))]; exact b2.2.2.2.2.2.2.1)
  refine ⟨w, ?_, by rw [hwk 0 (by decide) (by decide) (by decide), g0], fun a g => (hwa a (by omega) (by omega) (by omega) (by omega) (by omega)).trans (p_up_a _ _ _ (by omega)), ?_⟩
  · unfold fX10_years
    rw [zlet_eq, pinY (x := (nI N)) (lo := 1) (hi := 60) (a := 1) (b := 60) (by decide) (by decide) rfl rfl h0, zbind_some, if_neg (show ¬ (1 : Int32) = 0 by decide), pb0 g0, zbind_some, if_pos (show (0 : Int32) = 0 from rfl)]
    exact hw
  · exact IM_row ha hl hbk.1 hi b2 (fun a g1 g2 g3 g4 g5 g6 => (hwa a g4 g2 g3 (by omega) (by omega)).trans (p_up_a _ _ _ (by omega))) (fun k g0 g1 g2 g3 => (hwk k g1 g2 g3).trans (p_up_n _ _ (Or.inr g0))) hR2 (MR_fr b2.2.2.2.1 ((hwa 568 (by decide) (by decide) (by decide) (by decide) (by decide)).trans (p_up_a _ _ _ (by decide)))) (by rw [h41, k2]; congr 1; omega)
theorem case_14 {v : zV} (hInv : sInv v) (p1 : Int32) : ∃ w, fLc_14 p1 v = some w ∧ sInv w := by
  obtain ⟨α, l, β, ρ, ρb, im, tp, pl, r0, r1, hs, hI, hM⟩ := hInv
  have ha := hs.1
  have hl := hs.2.1
  have hbk := hs.2.2.1
  have hQ : CQ v α l ρ := ⟨hI.1, hI.2.2.1⟩
  have hO : OKs α l ρ := ⟨ha, hl, hs.2.2.2.1.1, hs.2.2.2.1.2⟩
  have hi := hs.2.2.2.2.2.2.1.1
  have hy := hs.2.2.2.1.2
  have oC : okC ρ := okW_C ha (ok_13 ha) hO.2.2.1
  have q1 : v 3 1 = nI (α 0 1) := hI.1.1.1.2.1
  have q0 : v 3 0 = nI (α 0 0) := hI.1.1.1.1
  have M16 : α 0 1 ≤ 16 := ha.1.2.1
  have Q6 : α 0 0 ≤ 6 := ha.1.1
  show ∃ w, zTail (zcatch (fX9_undo 0 p1 v) 603 none (some 1)) (fX10_undo 116 p1) = some w ∧ sInv w
  by_cases h0 : inB p1 1 60
  case neg =>
    exact tl_N (z1 := 1) (y := 1) (z := 0) hs hI hM (by decide) (by unfold fX9_undo; rw [pwN (x := p1) (lo := 1) (hi := 60) (a := 1) (b := 60) (by decide) (by decide) rfl rfl h0, zbind_some, pneedN, zbx_2]) (by decide) ⟨fun h => absurd h (by decide), fun _ => rfl⟩ (fun v2 b2 => by
      obtain ⟨g0, g1, g2, gQ, gD, gE⟩ := qM0 hs b2
      refine ⟨_, ?_, rfM_up v2 1 1⟩
      unfold fX10_undo fX10_undo_21
      rw [zlet_eq, pinN (x := p1) (lo := 1) (hi := 60) (a := 1) (b := 60) (by decide) (by decide) rfl rfl h0, zbind_some, if_pos (show (0 : Int32) = 0 from rfl), pb1_11 g0, zbind_some, if_neg (show ¬ (1 : Int32) = 0 by decide)]
      rfl)
  obtain ⟨N, n1, n60, rfl⟩ := id h0
  obtain ⟨e, e1, e2, e3⟩ := hs.2.2.2.2.2.1
  have hb := hs.2.2.2.2.1
  obtain ⟨D, hD, hD1, hD2⟩ : ∃ D, D = min N e ∧ D ≤ e ∧ (D = 0 → e = 0) := ⟨min N e, rfl, Nat.min_le_right _ _, fun z => by
    rcases Nat.le_total N e with q | q
    · rw [Nat.min_eq_left q] at z; omega
    · rw [Nat.min_eq_right q] at z; exact z⟩
  obtain ⟨t, ht, htR, hto⟩ := p_rowCopy r37.1 r43.1 (Or.inr (by decide)) hI.2.2.2.1 (by have := hb.1; have := ha.1.2.2.2.1; omega)
  obtain ⟨u, hu, huR, huo⟩ := p_undoL ha hl (nI D) (y := sSc ρ 0 - D) (by omega) (e - D) zFU ρb t (by omega) (by unfold zFU; omega) (CE_C r37 hI.1 (onlyR_C hto)) htR hb
  have hall := onlyC_tr (onlyR_C hto) huo
  obtain ⟨k1, k2⟩ := okR_go (l := l) ha (e - D) hb (by omega)
  have hs' : okS α l β (sGo α l (e - D) ρb) ρb im tp := ⟨ha, hl, hbk, ⟨k1, by omega⟩, hb, ⟨e - D, rfl, k2, e3⟩, hs.2.2.2.2.2.2⟩
  refine tl_G hs hs' hM (v1 := u) (r := nI D) (by
    unfold fX9_undo
    rw [pwY (x := (nI N)) (lo := 1) (hi := 60) (a := 1) (b := 60) (by decide) (by decide) rfl rfl h0, zbind_some, pneedY, zbx_0, rf_0_7, rf_0_8, hI.2.2.1.1.1, hI.2.2.2.1.1.1, nI_sub' (by omega), show sSc ρ 0 - sSc ρb 0 = e by omega, zmin_nI (by omega) (by omega), ← hD, nI_sub' (by omega), zlet_eq, ht, zbindv_some, hto 43 (Or.inr (by decide)), hI.2.2.2.1.1.1]
    exact hu) (fun a g1 g2 => hall a (by omega) (by omega) (by omega) (by omega)) (IC_row hi hI (fun a g1 g2 g3 g4 g5 => hall a (by omega) g2 g3 (by omega)) huR (RC_fr hI.2.2.2.1 (fun a g1 g2 => hall a (by omega) (by omega) (by omega) (by omega)))) (fun v2 b2 => ?_)
  obtain ⟨g0, g1, g2, gQ, gD, gE⟩ := qM0 hs b2
  have h41 : (zup v2 116 0 0) 116 41 = nI e := by
    rw [p_up_n _ _ (Or.inr (by decide)), b2.2.2.2.2.2.2.1]
    congr 1
    omega
  have hmin : (if nI e ≤ nI N then some (nI e, zup v2 116 0 0) else some (nI N, zup v2 116 0 0)) = some (nI D, zup v2 116 0 0) := by
    by_cases q : e ≤ N
    · rw [if_pos (leY (by omega) (by omega) q), hD, Nat.min_eq_right q]
    · rw [if_neg (leN (by omega) (by omega) q), hD, Nat.min_eq_left (by omega)]
  by_cases c : D = 0
  · have he0 := hD2 c
    have hρ : sGo α l (e - D) ρb = ρ := by rw [c, Nat.sub_zero, ← e1]
    refine ⟨zup v2 116 0 0, ?_, g0, fun a g => p_up_a _ _ _ (by omega), ?_⟩
    · unfold fX10_undo fX10_undo_21
      rw [zlet_eq, pinY (x := (nI N)) (lo := 1) (hi := 60) (a := 1) (b := 60) (by decide) (by decide) rfl rfl h0, zbind_some, if_neg (show ¬ (1 : Int32) = 0 by decide), pb0 g0, zbind_some, if_pos (show (0 : Int32) = 0 from rfl)]
      unfold fX10_less
      rw [h41, hmin, zbind_some, c, if_pos (show nI 0 = 0 from rfl)]
      rfl
    · rw [hρ]
      exact IM_f ha hl hbk.1 hi b2 (fun a g1 _ _ _ => p_up_a _ _ _ (by omega)) (fun k g _ _ _ _ _ _ _ => p_up_n _ _ (Or.inr g))
  · have ea : ∀ a, a ≠ 116 → zup (zup v2 116 0 0) 116 41 (nI e - nI D) a = v2 a := fun a g => by rw [p_up_a _ _ _ g, p_up_a _ _ _ g]
    have ek : ∀ k, k ≠ 0 → k ≠ 41 → zup (zup v2 116 0 0) 116 41 (nI e - nI D) 116 k = v2 116 k := fun k g h => by rw [p_up_n _ _ (Or.inr h), p_up_n _ _ (Or.inr g)]
    have e0 : zup (zup v2 116 0 0) 116 41 (nI e - nI D) 116 0 = nI 0 := by rw [p_up_n _ _ (Or.inr (by decide))]; exact g0
    have e41 : zup (zup v2 116 0 0) 116 41 (nI e - nI D) 116 41 = nI (e - D) := by rw [p_up_s, nI_sub' hD1]
    generalize hx : zup (zup v2 116 0 0) 116 41 (nI e - nI D) = x at ea ek e0 e41
    obtain ⟨t2, ht2, hcp, hon⟩ := p_mCopies m567 m568 (by decide) x
    have tR : MR 567 t2 ρb := MR_cp (MR_fr b2.2.2.2.1 (ea 568 (by decide))) hcp
    obtain ⟨w, hw, hR2, hwo⟩ := p_mUndoL ha hl (nI D) (N := e - D) (by omega) (e - D) zFU 0 ρb t2 (Nat.zero_add _) (by omega) (by unfold zFU; omega)
      ⟨MA_fr b2.1.1 ha (fun a g1 g2 => (hon a (by omega)).trans (ea a (by omega))), ML_fr b2.1.2 hl (by rw [hon 116 (by decide), ek 26 (by decide) (by decide)]) (fun a g1 g2 => (hon a (by omega)).trans (ea a (by omega)))⟩
      ⟨by rw [hon 116 (by decide), ek 44 (by decide) (by decide)]; exact b2.2.2.2.2.2.1.1, by rw [hon 116 (by decide), ek 46 (by decide) (by decide)]; exact b2.2.2.2.2.2.1.2.1, by rw [hon 116 (by decide), ek 47 (by decide) (by decide)]; exact b2.2.2.2.2.2.1.2.2⟩ tR hb (by rw [hon 116 (by decide), e41])
    have wa : ∀ a, a ≠ 567 → a ≠ 565 → a ≠ 566 → a ≠ 576 → a ≠ 116 → w a = v2 a := fun a g1 g2 g3 g4 g5 => (hwo.1 a g1 g2 g3 g4 g5).trans ((hon a g1).trans (ea a g5))
    have wk : ∀ k, k ≠ 48 → k ≠ 50 → w 116 k = x 116 k := fun k g1 g2 => (hwo.2 k g1 g2).trans (by rw [hon 116 (by decide)])
    refine ⟨w, ?_, (wk 0 (by decide) (by decide)).trans e0, fun a g => wa a (by omega) (by omega) (by omega) (by omega) (by omega), ?_⟩
    · unfold fX10_undo fX10_undo_21
      rw [zlet_eq, pinY (x := (nI N)) (lo := 1) (hi := 60) (a := 1) (b := 60) (by decide) (by decide) rfl rfl h0, zbind_some, if_neg (show ¬ (1 : Int32) = 0 by decide), pb0 g0, zbind_some, if_pos (show (0 : Int32) = 0 from rfl)]
      unfold fX10_less
      rw [h41, hmin, zbind_some, if_neg (show ¬ nI D = 0 from fun z => c ((nI_eq' (b := 0) (by omega) (by omega)).mp z)), h41, zlet_eq, hx, rf_116_36, rf_116_35, ht2, zbindv_some]
      exact hw
    · exact IM_row ha hl hbk.1 hi b2 (fun a g1 g2 g3 g4 g5 g6 => wa a g4 g2 g3 (by omega) (by omega)) (fun k g0 g1 g2 g3 => (wk k g2 g3).trans (ek k g0 g1)) hR2 (MR_fr b2.2.2.2.1 (wa 568 (by decide) (by decide) (by decide) (by decide) (by decide))) ((wk 41 (by decide) (by decide)).trans (e41.trans (congrArg nI (by rw [k2]; omega))))
end
