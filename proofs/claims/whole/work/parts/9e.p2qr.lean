/-! THE QUESTIONS, call by call: the rest -/
section
theorem case_7 {v : zV} (hInv : sInv v) (p1 : Int32) : ∃ w, fLc_7 p1 v = some w ∧ sInv w := by
  obtain ⟨α, l, β, ρ, ρb, im, tp, pl, r0, r1, hs, hI, hM⟩ := hInv
  have ha := hs.1
  have hl := hs.2.1
  have hbk := hs.2.2.1
  have hQ : CQ v α l ρ := ⟨hI.1, hI.2.2.1⟩
  have hO : OKs α l ρ := ⟨ha, hl, hs.2.2.2.1.1, hs.2.2.2.1.2⟩
  have eC := eqC_of hQ hO
  have oC : okC ρ := okW_C ha (ok_13 ha) hO.2.2.1
  have bD := bdC_of hO
  have q1 : v 3 1 = nI (α 0 1) := hI.1.1.1.2.1
  have q0 : v 3 0 = nI (α 0 0) := hI.1.1.1.1
  have M16 : α 0 1 ≤ 16 := ha.1.2.1
  have Q6 : α 0 0 ≤ 6 := ha.1.1
  show ∃ w, zTail (zcatch (fX9_sides 0 p1 v) 603 (some 1) none) (fX10_sides 116 p1) = some w ∧ sInv w
  by_cases h0 : inN p1 (α 0 0)
  · obtain ⟨q, ql, rfl⟩ := id h0
    exact tl_Y hs hI hM (p_sidesY hI.1.1 ha ql) (frC_rf v) (fun v2 b2 => ⟨_, p_mSidesY b2.1.1 ha ql, frM_rf _⟩)
  · exact tl_N (z1 := 0) (y := 1) hs hI hM (by decide) (p_sidesN hI.1.1 ha h0) (by decide) ⟨fun _ => rfl, fun h => absurd h (by decide)⟩ (fun v2 b2 => p_mSidesN b2.1.1 ha h0)
theorem case_8 {v : zV} (hInv : sInv v) (p1 p2 : Int32) : ∃ w, fLc_8 p1 p2 v = some w ∧ sInv w := by
  obtain ⟨α, l, β, ρ, ρb, im, tp, pl, r0, r1, hs, hI, hM⟩ := hInv
  have ha := hs.1
  have hl := hs.2.1
  have hbk := hs.2.2.1
  have hQ : CQ v α l ρ := ⟨hI.1, hI.2.2.1⟩
  have hO : OKs α l ρ := ⟨ha, hl, hs.2.2.2.1.1, hs.2.2.2.1.2⟩
  have eC := eqC_of hQ hO
  have oC : okC ρ := okW_C ha (ok_13 ha) hO.2.2.1
  have bD := bdC_of hO
  have q1 : v 3 1 = nI (α 0 1) := hI.1.1.1.2.1
  have q0 : v 3 0 = nI (α 0 0) := hI.1.1.1.1
  have M16 : α 0 1 ≤ 16 := ha.1.2.1
  have Q6 : α 0 0 ≤ 6 := ha.1.1
  show ∃ w, zTail (zcatch (fX9_believes 0 p1 p2 v) 603 (some 1) none) (fX10_believes 116 p1 p2) = some w ∧ sInv w
  by_cases h0 : inN p1 (α 0 1) ∧ inN p2 (α 0 0)
  · obtain ⟨⟨m, ml, rfl⟩, ⟨q, ql, rfl⟩⟩ := id h0
    exact tl_Y hs hI hM (p_believesY hI.1.1 ha ml ql) (frC_rf v) (fun v2 b2 => ⟨_, p_mBelievesY b2.1.1 ha ml ql, frM_rf _⟩)
  · exact tl_N (z1 := 0) (y := 1) hs hI hM (by decide) (p_believesN hI.1.1 ha h0) (by decide) ⟨fun _ => rfl, fun h => absurd h (by decide)⟩ (fun v2 b2 => p_mBelievesN b2.1.1 ha h0)
theorem case_9 {v : zV} (hInv : sInv v) (p1 : Int32) : ∃ w, fLc_9 p1 v = some w ∧ sInv w := by
  obtain ⟨α, l, β, ρ, ρb, im, tp, pl, r0, r1, hs, hI, hM⟩ := hInv
  have ha := hs.1
  have hl := hs.2.1
  have hbk := hs.2.2.1
  have hQ : CQ v α l ρ := ⟨hI.1, hI.2.2.1⟩
  have hO : OKs α l ρ := ⟨ha, hl, hs.2.2.2.1.1, hs.2.2.2.1.2⟩
  have eC := eqC_of hQ hO
  have oC : okC ρ := okW_C ha (ok_13 ha) hO.2.2.1
  have bD := bdC_of hO
  have q1 : v 3 1 = nI (α 0 1) := hI.1.1.1.2.1
  have q0 : v 3 0 = nI (α 0 0) := hI.1.1.1.1
  have M16 : α 0 1 ≤ 16 := ha.1.2.1
  have Q6 : α 0 0 ≤ 6 := ha.1.1
  show ∃ w, zTail (zcatch (fX9_chair 0 p1 v) 603 none (some 1)) (fX10_chair 116 p1) = some w ∧ sInv w
  by_cases h0 : inB p1 0 11
  · obtain ⟨x, -, xh, rfl⟩ := id h0
    exact tl_Y hs hI hM (p_chairY hI.2.2.1 oC xh) (frC_rf v) (fun v2 b2 => ⟨_, p_mChairY b2.2.2.1 oC xh, frM_rf _⟩)
  · exact tl_N (z1 := 1) (y := 1) hs hI hM (by decide) (p_chairN h0) (by decide) ⟨fun h => absurd h (by decide), fun _ => rfl⟩ (fun v2 b2 => p_mChairN h0)
theorem case_10 {v : zV} (hInv : sInv v) (p1 p2 : Int32) : ∃ w, fLc_10 p1 p2 v = some w ∧ sInv w := by
  obtain ⟨α, l, β, ρ, ρb, im, tp, pl, r0, r1, hs, hI, hM⟩ := hInv
  have ha := hs.1
  have hl := hs.2.1
  have hbk := hs.2.2.1
  have hQ : CQ v α l ρ := ⟨hI.1, hI.2.2.1⟩
  have hO : OKs α l ρ := ⟨ha, hl, hs.2.2.2.1.1, hs.2.2.2.1.2⟩
  have eC := eqC_of hQ hO
  have oC : okC ρ := okW_C ha (ok_13 ha) hO.2.2.1
  have bD := bdC_of hO
  have q1 : v 3 1 = nI (α 0 1) := hI.1.1.1.2.1
  have q0 : v 3 0 = nI (α 0 0) := hI.1.1.1.1
  have M16 : α 0 1 ≤ 16 := ha.1.2.1
  have Q6 : α 0 0 ≤ 6 := ha.1.1
  show ∃ w, zTail (zcatch (fX9_differs 0 p1 p2 v) 603 (some 1) none) (fX10_differs 116 p1 p2) = some w ∧ sInv w
  by_cases h0 : inN p1 (α 0 1) ∧ inN p2 (α 0 1)
  · obtain ⟨⟨m, ml, rfl⟩, ⟨q, ql, rfl⟩⟩ := id h0
    exact tl_Y hs hI hM (p_differsY hI.1.1 ha ml ql) (frC_rf v) (fun v2 b2 => ⟨_, p_mDiffersY b2.1.1 ha ml ql, frM_rf _⟩)
  · exact tl_N (z1 := 0) (y := 1) hs hI hM (by decide) (p_differsN hI.1.1 ha h0) (by decide) ⟨fun _ => rfl, fun h => absurd h (by decide)⟩ (fun v2 b2 => p_mDiffersN b2.1.1 ha h0)
theorem case_16 {v : zV} (hInv : sInv v) (p1 : Int32) : ∃ w, fLc_16 p1 v = some w ∧ sInv w := by
  obtain ⟨α, l, β, ρ, ρb, im, tp, pl, r0, r1, hs, hI, hM⟩ := hInv
  have ha := hs.1
  have hl := hs.2.1
  have hbk := hs.2.2.1
  have hQ : CQ v α l ρ := ⟨hI.1, hI.2.2.1⟩
  have hO : OKs α l ρ := ⟨ha, hl, hs.2.2.2.1.1, hs.2.2.2.1.2⟩
  have eC := eqC_of hQ hO
  have oC : okC ρ := okW_C ha (ok_13 ha) hO.2.2.1
  have bD := bdC_of hO
  have q1 : v 3 1 = nI (α 0 1) := hI.1.1.1.2.1
  have q0 : v 3 0 = nI (α 0 0) := hI.1.1.1.1
  have M16 : α 0 1 ≤ 16 := ha.1.2.1
  have Q6 : α 0 0 ≤ 6 := ha.1.1
  show ∃ w, zTail (zcatch (fX9_sums 0 p1 v) 603 none (some 1)) (fX10_sums 116 p1) = some w ∧ sInv w
  by_cases h0 : inB p1 0 3
  · obtain ⟨x, -, xh, rfl⟩ := id h0
    exact tl_Y hs hI hM (p_sumsY hI.2.2.1 xh) (frC_rf v) (fun v2 b2 => ⟨_, p_mSumsY b2.2.2.1 xh, frM_rf _⟩)
  · exact tl_N (z1 := 1) (y := 1) hs hI hM (by decide) (p_sumsN h0) (by decide) ⟨fun h => absurd h (by decide), fun _ => rfl⟩ (fun v2 b2 => p_mSumsN h0)
theorem case_4 {v : zV} (hInv : sInv v) : ∃ w, fLc_4 v = some w ∧ sInv w := by
  obtain ⟨α, l, β, ρ, ρb, im, tp, pl, r0, r1, hs, hI, hM⟩ := hInv
  have ha := hs.1
  have hl := hs.2.1
  have hbk := hs.2.2.1
  have hQ : CQ v α l ρ := ⟨hI.1, hI.2.2.1⟩
  have hO : OKs α l ρ := ⟨ha, hl, hs.2.2.2.1.1, hs.2.2.2.1.2⟩
  have eC := eqC_of hQ hO
  have oC : okC ρ := okW_C ha (ok_13 ha) hO.2.2.1
  have bD := bdC_of hO
  have q1 : v 3 1 = nI (α 0 1) := hI.1.1.1.2.1
  have q0 : v 3 0 = nI (α 0 0) := hI.1.1.1.1
  have M16 : α 0 1 ≤ 16 := ha.1.2.1
  have Q6 : α 0 0 ≤ 6 := ha.1.1
  show ∃ w, zTwo (fX9_fault 0 v) (fX10_fault 116) = some w ∧ sInv w
  refine tl_2 hs hI hM (v1 := v) (r := pl) (by unfold fX9_fault; rw [rf_0_0, hI.2.2.2.2.2.2.1]) (frC_rf v) (fun v2 b2 => ⟨zup v2 116 0 0, ?_, frM_rf _⟩)
  unfold fX10_fault
  rw [zlet_eq, p_up_n _ _ (Or.inr (by decide)), b2.2.2.2.2.2.2.2.2.2.1]
theorem case_15 {v : zV} (hInv : sInv v) (p1 : Int32) : ∃ w, fLc_15 p1 v = some w ∧ sInv w := by
  obtain ⟨α, l, β, ρ, ρb, im, tp, pl, r0, r1, hs, hI, hM⟩ := hInv
  have ha := hs.1
  have hl := hs.2.1
  have hbk := hs.2.2.1
  have hQ : CQ v α l ρ := ⟨hI.1, hI.2.2.1⟩
  have hO : OKs α l ρ := ⟨ha, hl, hs.2.2.2.1.1, hs.2.2.2.1.2⟩
  have eC := eqC_of hQ hO
  have oC : okC ρ := okW_C ha (ok_13 ha) hO.2.2.1
  have bD := bdC_of hO
  have q1 : v 3 1 = nI (α 0 1) := hI.1.1.1.2.1
  have q0 : v 3 0 = nI (α 0 0) := hI.1.1.1.1
  have M16 : α 0 1 ≤ 16 := ha.1.2.1
  have Q6 : α 0 0 ≤ 6 := ha.1.1
  show ∃ w, zTwo (fX9_taken 0 p1 v) (fX10_taken 116 p1) = some w ∧ sInv w
  by_cases h0 : p1 < 0
  · refine tl_2 hs hI hM (v1 := v) (r := -2) ?_ (frC_rf v) (fun v2 b2 => ⟨zup v2 116 0 0, ?_, frM_rf _⟩)
    · unfold fX9_taken
      rw [if_pos (Int32.lt_trans h0 (show (0 : Int32) < 1 by decide))]
    · unfold fX10_taken
      rw [zlet_eq, pinN (x := p1) (lo := 1) (hi := 200) (a := 1) (b := 200) (by decide) (by decide) rfl rfl (fun h => by obtain ⟨k, k1, k2, k3⟩ := h; exact ia_neg h0 k (by omega) k3), zbind_some, if_pos rfl]
  · obtain ⟨a, hal, rfl⟩ := ia_of h0
    exact tl_2 hs hI hM (p_taken hQ hO (okS_f hs).2 hal) (frC_rf v) (fun v2 b2 => p_mTaken0 ⟨b2.1, b2.2.2.1, b2.2.2.2.2.2.1⟩ hO hal)
theorem l118 : zlen 118 = 2 := by decide +kernel
theorem l120 : zlen 120 = 6 := by decide +kernel
theorem rx_10 : zrf 116 10 = 118 := by decide +kernel
theorem rx_12 : zrf 116 12 = 120 := by decide +kernel
theorem rx_16 : zrf 116 16 = 124 := by decide +kernel
theorem l124 : zlen 124 = 16 := by decide +kernel
theorem case_50 {v : zV} (hInv : sInv v) (p1 : Int32) : ∃ w, fLc_50 p1 v = some w ∧ sInv w := by
  obtain ⟨α, l, β, ρ, ρb, im, tp, pl, r0, r1, hs, hI, hM⟩ := hInv
  have ha := hs.1
  have hl := hs.2.1
  have hbk := hs.2.2.1
  have hQ : CQ v α l ρ := ⟨hI.1, hI.2.2.1⟩
  have hO : OKs α l ρ := ⟨ha, hl, hs.2.2.2.1.1, hs.2.2.2.1.2⟩
  have eC := eqC_of hQ hO
  have oC : okC ρ := okW_C ha (ok_13 ha) hO.2.2.1
  have bD := bdC_of hO
  have q1 : v 3 1 = nI (α 0 1) := hI.1.1.1.2.1
  have q0 : v 3 0 = nI (α 0 0) := hI.1.1.1.1
  have M16 : α 0 1 ≤ 16 := ha.1.2.1
  have Q6 : α 0 0 ≤ 6 := ha.1.1
  show ∃ w, zTwo (fX9_status 0 p1 v) (fX10_status 116 p1) = some w ∧ sInv w
  by_cases h0 : p1 = 0
  · subst h0
    refine tl_2 hs hI hM (v1 := v) (r := r0) ?_ (frC_rf v) (fun v2 b2 => ⟨zup v2 116 0 0, ?_, frM_rf _⟩)
    · unfold fX9_status
      rw [if_pos rfl, hI.2.2.2.2.2.2.2.1]
    · unfold fX10_status
      rw [zlet_eq, pinY (x := 0) (lo := 0) (hi := 1) (a := 0) (b := 1) (by decide) (by decide) rfl rfl ⟨0, by decide, by decide, rfl⟩, zbind_some, if_neg (show ¬ (1 : Int32) = 0 by decide), rx_10, l118, p_up_a _ _ _ (show (118 : Nat) ≠ 116 by decide)]
      show some (v2 118 0, _) = _
      rw [b2.2.2.2.2.2.2.2.2.2.2.1]
  by_cases h1 : p1 = 1
  · subst h1
    refine tl_2 hs hI hM (v1 := v) (r := r1) ?_ (frC_rf v) (fun v2 b2 => ⟨zup v2 116 0 0, ?_, frM_rf _⟩)
    · unfold fX9_status
      rw [if_neg (by decide), if_pos rfl, hI.2.2.2.2.2.2.2.2]
    · unfold fX10_status
      rw [zlet_eq, pinY (x := 1) (lo := 0) (hi := 1) (a := 0) (b := 1) (by decide) (by decide) rfl rfl ⟨1, by decide, by decide, rfl⟩, zbind_some, if_neg (show ¬ (1 : Int32) = 0 by decide), rx_10, l118, p_up_a _ _ _ (show (118 : Nat) ≠ 116 by decide)]
      show some (v2 118 1, _) = _
      rw [b2.2.2.2.2.2.2.2.2.2.2.2]
  · refine tl_2 hs hI hM (v1 := v) (r := -1) ?_ (frC_rf v) (fun v2 b2 => ⟨zup v2 116 0 0, ?_, frM_rf _⟩)
    · unfold fX9_status
      rw [if_neg h0, if_neg h1]
    · unfold fX10_status
      rw [zlet_eq, pinN (x := p1) (lo := 0) (hi := 1) (a := 0) (b := 1) (by decide) (by decide) rfl rfl (fun h => by
        obtain ⟨k, k1, k2, k3⟩ := h
        have : k = 0 ∨ k = 1 := by omega
        rcases this with rfl | rfl
        · exact h0 k3
        · exact h1 k3), zbind_some, if_pos rfl]
theorem case_51 {v : zV} (hInv : sInv v) (p1 : Int32) : ∃ w, fLc_51 p1 v = some w ∧ sInv w := by
  obtain ⟨α, l, β, ρ, ρb, im, tp, pl, r0, r1, hs, hI, hM⟩ := hInv
  have ha := hs.1
  have hl := hs.2.1
  have hbk := hs.2.2.1
  have hQ : CQ v α l ρ := ⟨hI.1, hI.2.2.1⟩
  have hO : OKs α l ρ := ⟨ha, hl, hs.2.2.2.1.1, hs.2.2.2.1.2⟩
  have eC := eqC_of hQ hO
  have oC : okC ρ := okW_C ha (ok_13 ha) hO.2.2.1
  have bD := bdC_of hO
  have q1 : v 3 1 = nI (α 0 1) := hI.1.1.1.2.1
  have q0 : v 3 0 = nI (α 0 0) := hI.1.1.1.1
  have M16 : α 0 1 ≤ 16 := ha.1.2.1
  have Q6 : α 0 0 ≤ 6 := ha.1.1
  show ∃ w, zTwo (fX9_count 0 p1 v) (fX10_count 116 p1) = some w ∧ sInv w
  by_cases h0 : p1 = 0
  · subst h0
    refine tl_2 hs hI hM (v1 := v) (r := nI im.length) ?_ (frC_rf v) (fun v2 b2 => ⟨zup v2 116 0 0, ?_, frM_rf _⟩)
    · unfold fX9_count
      rw [if_pos rfl, hI.2.2.2.2.1.1]
    · unfold fX10_count
      rw [zlet_eq, if_pos rfl, p_up_n _ _ (Or.inr (by decide)), b2.2.2.2.2.2.2.2.1.1]
  by_cases h1 : p1 = 1
  · subst h1
    refine tl_2 hs hI hM (v1 := v) (r := nI tp.length) ?_ (frC_rf v) (fun v2 b2 => ⟨zup v2 116 0 0, ?_, frM_rf _⟩)
    · unfold fX9_count
      rw [if_neg (by decide), if_pos rfl, rf_0_0, hI.2.2.2.2.2.1.1]
    · unfold fX10_count
      rw [zlet_eq, if_neg (by decide), if_pos rfl, p_up_n _ _ (Or.inr (by decide)), b2.2.2.2.2.2.2.2.2.1.1]
  by_cases h2 : p1 = 2
  · subst h2
    refine tl_2 hs hI hM (v1 := v) (r := nI (sSc ρ 0 - sSc ρb 0)) ?_ (frC_rf v) (fun v2 b2 => ⟨zup v2 116 0 0, ?_, frM_rf _⟩)
    · unfold fX9_count
      obtain ⟨d, -, hd, -⟩ := hs.2.2.2.2.2.1
      rw [if_neg (by decide), if_neg (by decide), if_pos rfl, rf_0_7, rf_0_8, hI.2.2.1.1.1, hI.2.2.2.1.1.1, nI_sub' (by omega)]
    · unfold fX10_count
      rw [zlet_eq, if_neg (by decide), if_neg (by decide), if_pos rfl, p_up_n _ _ (Or.inr (by decide)), b2.2.2.2.2.2.2.1]
  · refine tl_2 hs hI hM (v1 := v) (r := -1) ?_ (frC_rf v) (fun v2 b2 => ⟨zup v2 116 0 0, ?_, frM_rf _⟩)
    · unfold fX9_count
      rw [if_neg h0, if_neg h1, if_neg h2]
    · unfold fX10_count
      rw [zlet_eq, if_neg h0, if_neg h1, if_neg h2]
theorem rx_56 : zrf 116 56 = 601 := by decide +kernel
theorem l601 : zlen 601 = 6 := by decide +kernel
theorem pT5 {α : sA} {j : Nat} {s : sTR} (h : okTR α j s) (hj : j ≤ 729) {q : Nat} (hq : q < α 0 0) (Q6 : α 0 0 ≤ 6) {w : zV} (hw : w 601 q = agB (s.2.2 q)) : (if nI s.1 = (0 : Int32) then some ((-1 : Int32), w) else zix (nI q) (zlen 601) (some (w 601 (nI q).toNatClampNeg, w))) = some (sOnly (s.2.2 q), w) := by
  obtain ⟨h1, h2, h3⟩ := h
  rw [l601, zix_nI (by omega) (by omega), nI_cl' (by omega), hw]
  by_cases c : s.1 = 0
  · rw [c, if_pos (show nI 0 = 0 from rfl), (h3 q hq).mp c]
    rfl
  · have hp : 0 < s.2.2 q := Nat.pos_of_ne_zero (fun z => c ((h3 q hq).mpr z))
    rw [if_neg (show ¬ nI s.1 = 0 from fun z => c (by have := nI_eq' (a := s.1) (b := 0) (by omega) (by omega); exact this.mp z)), agB_only _ (h2 q) hp]
theorem case_24 {v : zV} (hInv : sInv v) (p1 p2 : Int32) : ∃ w, fLc_24 p1 p2 v = some w ∧ sInv w := by
  obtain ⟨α, l, β, ρ, ρb, im, tp, pl, r0, r1, hs, hI, hM⟩ := hInv
  have ha := hs.1
  have hl := hs.2.1
  have hbk := hs.2.2.1
  have hQ : CQ v α l ρ := ⟨hI.1, hI.2.2.1⟩
  have hO : OKs α l ρ := ⟨ha, hl, hs.2.2.2.1.1, hs.2.2.2.1.2⟩
  have eC := eqC_of hQ hO
  have oC : okC ρ := okW_C ha (ok_13 ha) hO.2.2.1
  have bD := bdC_of hO
  have q1 : v 3 1 = nI (α 0 1) := hI.1.1.1.2.1
  have q0 : v 3 0 = nI (α 0 0) := hI.1.1.1.1
  have M16 : α 0 1 ≤ 16 := ha.1.2.1
  have Q6 : α 0 0 ≤ 6 := ha.1.1
  show ∃ w, zTail (zcatch (fX9_sure 0 p1 p2 v) 603 (some 1) none) (fX10_sure 116 p1 p2) = some w ∧ sInv w
  by_cases h0 : inN p1 (α 0 1)
  · skip
    by_cases h1 : inN p2 (α 0 0)
    · skip
      obtain ⟨m, ml, rfl⟩ := id h0
      obtain ⟨q, ql, rfl⟩ := id h1
      obtain ⟨w1, hw1, -, f1, -, -, u95⟩ := p_tries ha hl hbk ml hI.1 hI.2.1
      refine tl_Y hs hI hM (v1 := w1) (r := sOnly ((sTry α l β m).2.2 q)) (by unfold fX9_sure; rw [(p_needMan (x := (nI m)) q1 M16).1 h0, zbx_0, (p_needQ (x := (nI q)) q0 Q6).1 h1, zbx_0, rf_0_13, hw1, zbindv_some, p_onlySide (by omega) ((okTR_try ha l β m).2.1 q) (u95 q (by omega)), zbind_some]) (f1) (fun v2 b2 => ?_)
      obtain ⟨g0, g1, g2, gQ, gD, gE⟩ := qM0 hs b2
      obtain ⟨w2, hw2, f2, u601, u57, -⟩ := p_mTry ha hl hbk ml gD
      refine ⟨w2, ?_, f2⟩
      unfold fX10_sure fX10_sure_27
      rw [zlet_eq, pmanY (x := (nI m)) g1 M16 h0, zbind_some, if_neg (show ¬ (1 : Int32) = 0 by decide), pquY (x := (nI q)) g2 Q6 h1, zbind_some, if_neg (show ¬ (1 : Int32) = 0 by decide), pb0 g0, zbind_some, if_pos (show (0 : Int32) = 0 from rfl), hw2, zbindv_some, u57, rx_56]
      exact pT5 (okTR_try ha l β m) (prB_729 ha) ql Q6 (u601 q ql)
    · exact tl_N (z1 := 0) (y := 1) (z := 0) hs hI hM (by decide) (by unfold fX9_sure; rw [(p_needMan (x := p1) q1 M16).1 h0, zbx_0, (p_needQ (x := p2) q0 Q6).2 h1, zbx_1]) (by decide) ⟨fun _ => rfl, fun h => absurd h (by decide)⟩ (fun v2 b2 => by
        obtain ⟨g0, g1, g2, gQ, gD, gE⟩ := qM0 hs b2
        refine ⟨_, ?_, rfM_up v2 1 0⟩
        unfold fX10_sure fX10_sure_27
        rw [zlet_eq, pmanY (x := p1) g1 M16 h0, zbind_some, if_neg (show ¬ (1 : Int32) = 0 by decide), pquN (x := p2) g2 Q6 h1, zbind_some, if_pos (show (0 : Int32) = 0 from rfl), pb1_10 g0, zbind_some, if_neg (show ¬ (1 : Int32) = 0 by decide)]
        rfl)
  · exact tl_N (z1 := 0) (y := 1) (z := 0) hs hI hM (by decide) (by unfold fX9_sure; rw [(p_needMan (x := p1) q1 M16).2 h0, zbx_1]) (by decide) ⟨fun _ => rfl, fun h => absurd h (by decide)⟩ (fun v2 b2 => by
      obtain ⟨g0, g1, g2, gQ, gD, gE⟩ := qM0 hs b2
      refine ⟨_, ?_, rfM_up v2 1 0⟩
      unfold fX10_sure fX10_sure_27
      rw [zlet_eq, pmanN (x := p1) g1 M16 h0, zbind_some, if_pos (show (0 : Int32) = 0 from rfl), pb1_10 g0, zbind_some, if_neg (show ¬ (1 : Int32) = 0 by decide)]
      rfl)
def sMan (α : sA) (ρ : sR) (m t : Nat) : Int32 := if t = 0 then nI (α 2 m + sSc ρ 0 - 1) else if t = 1 then nI (sSt ρ m) else if t = 2 then oI (sIx (sCh ρ) m) else if t = 3 then nI (sWt ρ m) else sSn ρ m
theorem rr_37_9 : zrf 37 9 = 39 := by decide +kernel
theorem rr_37_10 : zrf 37 10 = 40 := by decide +kernel
theorem rr_37_11 : zrf 37 11 = 41 := by decide +kernel
theorem l39 : zlen 39 = 16 := by decide +kernel
theorem l40 : zlen 40 = 16 := by decide +kernel
theorem l41 : zlen 41 = 16 := by decide +kernel
theorem pMan {v : zV} {α : sA} {l : sL} {ρ : sR} (h : CQ v α l ρ) (ho : OKs α l ρ) (h9 : α 0 1 = 0 ∨ sSc ρ 9 = 0) {m t : Nat} (hm : m < α 0 1) (ht : t ≤ 4) : (if nI t = (0 : Int32) then
        zbind (fX0_ageIn (zrf 0 1) (nI m) (v (zrf 0 7) 0) v) fun r_8 v_7 =>
        some ((0 : Nat), r_8, v_7)
      else
        if nI t = (1 : Int32) then
          zbind (fX9_get (zrf (zrf 0 7) 9) (nI m) v) fun r_10 v_9 =>
          some (0, r_10, v_9)
        else
          if nI t = (2 : Int32) then
            zbind (fX7_chairOf (zrf 0 7) (nI m) v) fun r_12 v_11 =>
            some (0, r_12, v_11)
          else
            if nI t = (3 : Int32) then
              zbind (fX9_get (zrf (zrf 0 7) 10) (nI m) v) fun r_14 v_13 =>
              some (0, r_14, v_13)
            else
              zbind (fX9_get (zrf (zrf 0 7) 11) (nI m) v) fun r_16 v_15 =>
              some (0, r_16, v_15)) = some (0, sMan α ρ m t, v) := by
  have M16 := ho.1.1.2.1
  have oC : okC ρ := okW_C ho.1 (ok_13 ho.1) ho.2.2.1
  have hy := ho.2.2.1.2.2.2.2.2.1.1
  have hR := h.2
  simp only [nI_is0 (show t < 100 by omega), nI_is1 (show t < 100 by omega), nI_is2 (show t < 100 by omega), nI_is3 (show t < 100 by omega), rf_0_1, rf_0_7, rr_37_9, rr_37_10, rr_37_11]
  unfold sMan
  split
  · rw [hR.1.1, p_ageIn h.1.1 ho.1 hm hy, zbind_some]
  · split
    · rw [p_get (by rw [l39]; omega), zbind_some, hR.2.2.1 m (by omega)]
    · split
      · rw [p_chairOf r37.1 hR oC (by omega), zbind_some, sFind_ix]
      · split
        · rw [p_get (by rw [l40]; omega), zbind_some, hR.2.2.2.1 m (by omega)]
        · rw [p_get (by rw [l41]; omega), zbind_some, hR.2.2.2.2.1 m (by omega) (h9.elim (fun z => by omega) id)]
theorem zx99 {β : Type} {k : Option β} : zix 99 305 k = k := Eq.trans rfl rfl
theorem c99 : (99 : Int32).toNatClampNeg = 99 := rfl
theorem pmMan {v : zV} {α : sA} {l : sL} {ρ : sR} (h : MQ' v α l ρ) (ho : OKs α l ρ) {m t : Nat} (hm : m < α 0 1) (ht : t ≤ 4) : (if nI t = (0 : Int32) then
      zix (nI m) (zlen (zrf 116 16)) <|
      zix (99 : Int32) (zlen (zrf 116 35)) <|
      some (((v (zrf 116 16) (nI m).toNatClampNeg) + (v (zrf 116 35) ((99 : Int32)).toNatClampNeg)) - (1 : Int32), v)
    else
      if nI t = (1 : Int32) then
        zix ((0 : Int32) + nI m) (zlen (zrf 116 35)) <|
        some (v (zrf 116 35) ((0 : Int32) + nI m).toNatClampNeg, v)
      else
        if nI t = (2 : Int32) then
          zbind (fX10_chairOf (zrf 116 35) (nI m) v) fun r_4 v_3 =>
          some (r_4, v_3)
        else
          if nI t = (3 : Int32) then
            zix ((16 : Int32) + nI m) (zlen (zrf 116 35)) <|
            some (v (zrf 116 35) ((16 : Int32) + nI m).toNatClampNeg, v)
          else
            zix ((32 : Int32) + nI m) (zlen (zrf 116 35)) <|
            some (v (zrf 116 35) ((32 : Int32) + nI m).toNatClampNeg, v)) = some (sMan α ρ m t, v) := by
  have M16 := ho.1.1.2.1
  have oC : okC ρ := okW_C ho.1 (ok_13 ho.1) ho.2.2.1
  have hy := ho.2.2.1.2.2.2.2.2.1
  have hR := h.2.1
  simp only [nI_is0 (show t < 100 by omega), nI_is1 (show t < 100 by omega), nI_is2 (show t < 100 by omega), nI_is3 (show t < 100 by omega), rx_16, rf_116_35, l567, l124, zx99, c99, Int32.zero_add, show (16 : Int32) = nI 16 from rfl, show (32 : Int32) = nI 32 from rfl, nI_add]
  unfold sMan
  split
  · rw [zix_nI (by omega) (by omega), nI_cl' (by omega), h.1.1.2.2.1 m hm, hR.1.2.2.1, nI_add, show (1 : Int32) = nI 1 from rfl, nI_sub' (by omega)]
  · split
    · rw [zix_nI (by omega) (by omega), nI_cl' (by omega), hR.2.1 m (by omega)]
    · split
      · rw [p_mChair m567 hR oC (by omega), zbind_some]
      · split
        · rw [zix_nI (by omega) (by omega), nI_cl' (by omega), hR.2.2.1 m (by omega)]
        · rw [zix_nI (by omega) (by omega), nI_cl' (by omega), hR.2.2.2.1 m (by omega)]
theorem case_6 {v : zV} (hInv : sInv v) (p1 p2 : Int32) : ∃ w, fLc_6 p1 p2 v = some w ∧ sInv w := by
  obtain ⟨α, l, β, ρ, ρb, im, tp, pl, r0, r1, hs, hI, hM⟩ := hInv
  have ha := hs.1
  have hl := hs.2.1
  have hbk := hs.2.2.1
  have hQ : CQ v α l ρ := ⟨hI.1, hI.2.2.1⟩
  have hO : OKs α l ρ := ⟨ha, hl, hs.2.2.2.1.1, hs.2.2.2.1.2⟩
  have eC := eqC_of hQ hO
  have oC : okC ρ := okW_C ha (ok_13 ha) hO.2.2.1
  have bD := bdC_of hO
  have q1 : v 3 1 = nI (α 0 1) := hI.1.1.1.2.1
  have q0 : v 3 0 = nI (α 0 0) := hI.1.1.1.1
  have M16 : α 0 1 ≤ 16 := ha.1.2.1
  have Q6 : α 0 0 ≤ 6 := ha.1.1
  show ∃ w, zTail (zcatch (fX9_man 0 p1 p2 v) 603 (some 1) (some 2)) (fX10_man 116 p1 p2) = some w ∧ sInv w
  by_cases h0 : inN p1 (α 0 1)
  · skip
    by_cases h1 : inB p2 0 4
    · skip
      obtain ⟨m, ml, rfl⟩ := id h0
      obtain ⟨t, tl, th, rfl⟩ := id h1
      refine tl_Y hs hI hM (v1 := v) (r := sMan α ρ m t) (by unfold fX9_man; rw [(p_needMan (x := (nI m)) q1 M16).1 h0, zbx_0, pwY (x := (nI t)) (lo := 0) (hi := 4) (a := 0) (b := 4) (by decide) (by decide) rfl rfl h1, zbind_some, pneedY, zbx_0]; exact pMan hQ hO (okS_f hs).2 ml th) (frC_rf v) (fun v2 b2 => ?_)
      obtain ⟨g0, g1, g2, gQ, gD, gE⟩ := qM0 hs b2
      refine ⟨_, ?_, frM_rf _⟩
      unfold fX10_man fX10_man_19 fX10_man_42
      rw [zlet_eq, pmanY (x := (nI m)) g1 M16 h0, zbind_some, if_neg (show ¬ (1 : Int32) = 0 by decide), pb0 g0, zbind_some, if_pos (show (0 : Int32) = 0 from rfl), pinY (x := (nI t)) (lo := 0) (hi := 4) (a := 0) (b := 4) (by decide) (by decide) rfl rfl h1, zbind_some, if_neg (show ¬ (1 : Int32) = 0 by decide), pb0 g0, zbind_some, if_pos (show (0 : Int32) = 0 from rfl)]
      exact pmMan gQ hO ml th
    · exact tl_N (z1 := 1) (y := 2) (z := 0) hs hI hM (by decide) (by unfold fX9_man; rw [(p_needMan (x := p1) q1 M16).1 h0, zbx_0, pwN (x := p2) (lo := 0) (hi := 4) (a := 0) (b := 4) (by decide) (by decide) rfl rfl h1, zbind_some, pneedN, zbx_2]) (by decide) ⟨fun h => absurd h (by decide), fun _ => rfl⟩ (fun v2 b2 => by
        obtain ⟨g0, g1, g2, gQ, gD, gE⟩ := qM0 hs b2
        refine ⟨_, ?_, rfM_up v2 2 1⟩
        unfold fX10_man fX10_man_19 fX10_man_42
        rw [zlet_eq, pmanY (x := p1) g1 M16 h0, zbind_some, if_neg (show ¬ (1 : Int32) = 0 by decide), pb0 g0, zbind_some, if_pos (show (0 : Int32) = 0 from rfl), pinN (x := p2) (lo := 0) (hi := 4) (a := 0) (b := 4) (by decide) (by decide) rfl rfl h1, zbind_some, if_pos (show (0 : Int32) = 0 from rfl), pb1_21 g0, zbind_some, if_neg (show ¬ (1 : Int32) = 0 by decide)]
        rfl)
  · exact tl_N (z1 := 0) (y := 1) (z := 0) hs hI hM (by decide) (by unfold fX9_man; rw [(p_needMan (x := p1) q1 M16).2 h0, zbx_1]) (by decide) ⟨fun _ => rfl, fun h => absurd h (by decide)⟩ (fun v2 b2 => by
      obtain ⟨g0, g1, g2, gQ, gD, gE⟩ := qM0 hs b2
      refine ⟨_, ?_, rfM_up v2 1 0⟩
      unfold fX10_man fX10_man_19 fX10_man_42
      rw [zlet_eq, pmanN (x := p1) g1 M16 h0, zbind_some, if_pos (show (0 : Int32) = 0 from rfl), pb1_10 g0, zbind_some, if_neg (show ¬ (1 : Int32) = 0 by decide)]
      rfl)
end
