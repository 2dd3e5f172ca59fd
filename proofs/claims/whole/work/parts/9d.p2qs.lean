/-! THE QUESTIONS, call by call (by program: genq.py) -/
section
theorem case_31 {v : zV} (hInv : sInv v) : ∃ w, fLc_31 v = some w ∧ sInv w := by
  obtain ⟨α, l, β, ρ, ρb, im, tp, pl, r0, r1, hs, hI, hM⟩ := hInv
  have ha := hs.1
  have hl := hs.2.1
  have hbk := hs.2.2.1
  have hQ : CQ v α l ρ := ⟨hI.1, hI.2.2.1⟩
  have hO : OKs α l ρ := ⟨ha, hl, hs.2.2.2.1.1, hs.2.2.2.1.2⟩
  have eC := eqC_of hQ hO
  have bD := bdC_of hO
  have q1 : v 3 1 = nI (α 0 1) := hI.1.1.1.2.1
  have q0 : v 3 0 = nI (α 0 0) := hI.1.1.1.1
  have M16 : α 0 1 ≤ 16 := ha.1.2.1
  have Q6 : α 0 0 ≤ 6 := ha.1.1
  show ∃ w, zTwo (fX9_middle 0 v) (fX10_middle 116) = some w ∧ sInv w
  refine tl_2 hs hI hM (v1 := v) (r := oI (sMiddle α ρ)) (by unfold fX9_middle; rw [rf_0_14, p_middle eC bD, zbind_some]) (frC_rf v) (fun v2 b2 => ?_)
  obtain ⟨g0, g1, g2, gQ, gD, gE⟩ := qM0 hs b2
  refine ⟨_, ?_, frM_rf _⟩
  unfold fX10_middle 
  rw [zlet_eq]
  exact p_mMiddle gE bD
theorem case_32 {v : zV} (hInv : sInv v) (p1 : Int32) : ∃ w, fLc_32 p1 v = some w ∧ sInv w := by
  obtain ⟨α, l, β, ρ, ρb, im, tp, pl, r0, r1, hs, hI, hM⟩ := hInv
  have ha := hs.1
  have hl := hs.2.1
  have hbk := hs.2.2.1
  have hQ : CQ v α l ρ := ⟨hI.1, hI.2.2.1⟩
  have hO : OKs α l ρ := ⟨ha, hl, hs.2.2.2.1.1, hs.2.2.2.1.2⟩
  have eC := eqC_of hQ hO
  have bD := bdC_of hO
  have q1 : v 3 1 = nI (α 0 1) := hI.1.1.1.2.1
  have q0 : v 3 0 = nI (α 0 0) := hI.1.1.1.1
  have M16 : α 0 1 ≤ 16 := ha.1.2.1
  have Q6 : α 0 0 ≤ 6 := ha.1.1
  show ∃ w, zTail (zcatch (fX9_flip 0 p1 v) 603 (some 1) none) (fX10_flip 116 p1) = some w ∧ sInv w
  by_cases h0 : inN p1 (α 0 0)
  · skip
    obtain ⟨q, ql, rfl⟩ := id h0
    obtain ⟨w1, hw1, f1⟩ := p_flip hQ hO ql
    refine tl_Y hs hI hM (v1 := w1) (r := sFlip (sVt α ρ q 1 0 (sCh ρ).length) (sVote α ρ q 1 0 (sCh ρ).length)) (by unfold fX9_flip; rw [(p_needQ (x := (nI q)) q0 Q6).1 h0, zbx_0, rf_0_14, hw1, zbind_some]) (fun a _ _ g => f1 a (by omega)) (fun v2 b2 => ?_)
    obtain ⟨g0, g1, g2, gQ, gD, gE⟩ := qM0 hs b2
    obtain ⟨w2, hw2, f2⟩ := p_mFlip gQ hO ql
    refine ⟨w2, ?_, frM_c (r := 602) (by decide) (by decide) f2⟩
    unfold fX10_flip fX10_flip_19
    rw [zlet_eq, pquY (x := (nI q)) g2 Q6 h0, zbind_some, if_neg (show ¬ (1 : Int32) = 0 by decide), pb0 g0, zbind_some, if_pos (show (0 : Int32) = 0 from rfl), rf_116_35, l567, zx61, c61, p61 gQ]
    exact hw2
  · exact tl_N (z1 := 0) (y := 1) (z := 0) hs hI hM (by decide) (by unfold fX9_flip; rw [(p_needQ (x := p1) q0 Q6).2 h0, zbx_1]) (by decide) ⟨fun _ => rfl, fun h => absurd h (by decide)⟩ (fun v2 b2 => by
      obtain ⟨g0, g1, g2, gQ, gD, gE⟩ := qM0 hs b2
      refine ⟨_, ?_, rfM_up v2 1 0⟩
      unfold fX10_flip fX10_flip_19
      rw [zlet_eq, pquN (x := p1) g2 Q6 h0, zbind_some, if_pos (show (0 : Int32) = 0 from rfl), pb1_10 g0, zbind_some, if_neg (show ¬ (1 : Int32) = 0 by decide)]
      rfl)
theorem case_34 {v : zV} (hInv : sInv v) (p1 : Int32) : ∃ w, fLc_34 p1 v = some w ∧ sInv w := by
  obtain ⟨α, l, β, ρ, ρb, im, tp, pl, r0, r1, hs, hI, hM⟩ := hInv
  have ha := hs.1
  have hl := hs.2.1
  have hbk := hs.2.2.1
  have hQ : CQ v α l ρ := ⟨hI.1, hI.2.2.1⟩
  have hO : OKs α l ρ := ⟨ha, hl, hs.2.2.2.1.1, hs.2.2.2.1.2⟩
  have eC := eqC_of hQ hO
  have bD := bdC_of hO
  have q1 : v 3 1 = nI (α 0 1) := hI.1.1.1.2.1
  have q0 : v 3 0 = nI (α 0 0) := hI.1.1.1.1
  have M16 : α 0 1 ≤ 16 := ha.1.2.1
  have Q6 : α 0 0 ≤ 6 := ha.1.1
  show ∃ w, zTail (zcatch (fX9_allies 0 p1 v) 603 (some 1) none) (fX10_allies 116 p1) = some w ∧ sInv w
  by_cases h0 : inN p1 (α 0 1)
  · skip
    obtain ⟨m, ml, rfl⟩ := id h0
    refine tl_Y hs hI hM (v1 := v) (r := sAllies α m) (by unfold fX9_allies; rw [(p_needMan (x := (nI m)) q1 M16).1 h0, zbx_0, rf_0_14, p_allies eC bD ml, zbind_some]) (frC_rf v) (fun v2 b2 => ?_)
    obtain ⟨g0, g1, g2, gQ, gD, gE⟩ := qM0 hs b2
    refine ⟨_, ?_, frM_rf _⟩
    unfold fX10_allies 
    rw [zlet_eq, pmanY (x := (nI m)) g1 M16 h0, zbind_some, if_neg (show ¬ (1 : Int32) = 0 by decide), pb0 g0, zbind_some, if_pos (show (0 : Int32) = 0 from rfl)]
    exact p_mAllies gE bD ml
  · exact tl_N (z1 := 0) (y := 1) (z := 0) hs hI hM (by decide) (by unfold fX9_allies; rw [(p_needMan (x := p1) q1 M16).2 h0, zbx_1]) (by decide) ⟨fun _ => rfl, fun h => absurd h (by decide)⟩ (fun v2 b2 => by
      obtain ⟨g0, g1, g2, gQ, gD, gE⟩ := qM0 hs b2
      refine ⟨_, ?_, rfM_up v2 1 0⟩
      unfold fX10_allies 
      rw [zlet_eq, pmanN (x := p1) g1 M16 h0, zbind_some, if_pos (show (0 : Int32) = 0 from rfl), pb1_10 g0, zbind_some, if_neg (show ¬ (1 : Int32) = 0 by decide)]
      rfl)
theorem case_35 {v : zV} (hInv : sInv v) (p1 : Int32) : ∃ w, fLc_35 p1 v = some w ∧ sInv w := by
  obtain ⟨α, l, β, ρ, ρb, im, tp, pl, r0, r1, hs, hI, hM⟩ := hInv
  have ha := hs.1
  have hl := hs.2.1
  have hbk := hs.2.2.1
  have hQ : CQ v α l ρ := ⟨hI.1, hI.2.2.1⟩
  have hO : OKs α l ρ := ⟨ha, hl, hs.2.2.2.1.1, hs.2.2.2.1.2⟩
  have eC := eqC_of hQ hO
  have bD := bdC_of hO
  have q1 : v 3 1 = nI (α 0 1) := hI.1.1.1.2.1
  have q0 : v 3 0 = nI (α 0 0) := hI.1.1.1.1
  have M16 : α 0 1 ≤ 16 := ha.1.2.1
  have Q6 : α 0 0 ≤ 6 := ha.1.1
  show ∃ w, zTail (zcatch (fX9_rank 0 p1 v) 603 (some 1) none) (fX10_rank 116 p1) = some w ∧ sInv w
  by_cases h0 : inN p1 (α 0 1)
  · skip
    obtain ⟨m, ml, rfl⟩ := id h0
    obtain ⟨w1, hw1, f1⟩ := p_rank hQ hO ml
    refine tl_Y hs hI hM (v1 := w1) (r := nI (sRank α l ρ m)) (by unfold fX9_rank; rw [(p_needMan (x := (nI m)) q1 M16).1 h0, zbx_0, rf_0_12, hw1, zbind_some]) (f1) (fun v2 b2 => ?_)
    obtain ⟨g0, g1, g2, gQ, gD, gE⟩ := qM0 hs b2
    obtain ⟨w2, hw2, f2⟩ := p_mRank gQ hO ml
    refine ⟨w2, ?_, f2⟩
    unfold fX10_rank fX10_rank_19
    rw [zlet_eq, pmanY (x := (nI m)) g1 M16 h0, zbind_some, if_neg (show ¬ (1 : Int32) = 0 by decide), pb0 g0, zbind_some, if_pos (show (0 : Int32) = 0 from rfl), rf_116_35]
    exact hw2
  · exact tl_N (z1 := 0) (y := 1) (z := 0) hs hI hM (by decide) (by unfold fX9_rank; rw [(p_needMan (x := p1) q1 M16).2 h0, zbx_1]) (by decide) ⟨fun _ => rfl, fun h => absurd h (by decide)⟩ (fun v2 b2 => by
      obtain ⟨g0, g1, g2, gQ, gD, gE⟩ := qM0 hs b2
      refine ⟨_, ?_, rfM_up v2 1 0⟩
      unfold fX10_rank fX10_rank_19
      rw [zlet_eq, pmanN (x := p1) g1 M16 h0, zbind_some, if_pos (show (0 : Int32) = 0 from rfl), pb1_10 g0, zbind_some, if_neg (show ¬ (1 : Int32) = 0 by decide)]
      rfl)
theorem case_36 {v : zV} (hInv : sInv v) : ∃ w, fLc_36 v = some w ∧ sInv w := by
  obtain ⟨α, l, β, ρ, ρb, im, tp, pl, r0, r1, hs, hI, hM⟩ := hInv
  have ha := hs.1
  have hl := hs.2.1
  have hbk := hs.2.2.1
  have hQ : CQ v α l ρ := ⟨hI.1, hI.2.2.1⟩
  have hO : OKs α l ρ := ⟨ha, hl, hs.2.2.2.1.1, hs.2.2.2.1.2⟩
  have eC := eqC_of hQ hO
  have bD := bdC_of hO
  have q1 : v 3 1 = nI (α 0 1) := hI.1.1.1.2.1
  have q0 : v 3 0 = nI (α 0 0) := hI.1.1.1.1
  have M16 : α 0 1 ≤ 16 := ha.1.2.1
  have Q6 : α 0 0 ≤ 6 := ha.1.1
  show ∃ w, zTwo (fX9_lead 0 v) (fX10_lead 116) = some w ∧ sInv w
  obtain ⟨w1, hw1, f1⟩ := p_lead hQ hO
  refine tl_2 hs hI hM (v1 := w1) (r := sLead α l ρ) (by unfold fX9_lead; rw [rf_0_12, hw1, zbind_some]) (f1) (fun v2 b2 => ?_)
  obtain ⟨g0, g1, g2, gQ, gD, gE⟩ := qM0 hs b2
  obtain ⟨w2, hw2, f2⟩ := p_mLead gQ hO
  refine ⟨w2, ?_, f2⟩
  unfold fX10_lead 
  rw [zlet_eq]
  exact hw2
theorem case_37 {v : zV} (hInv : sInv v) (p1 : Int32) : ∃ w, fLc_37 p1 v = some w ∧ sInv w := by
  obtain ⟨α, l, β, ρ, ρb, im, tp, pl, r0, r1, hs, hI, hM⟩ := hInv
  have ha := hs.1
  have hl := hs.2.1
  have hbk := hs.2.2.1
  have hQ : CQ v α l ρ := ⟨hI.1, hI.2.2.1⟩
  have hO : OKs α l ρ := ⟨ha, hl, hs.2.2.2.1.1, hs.2.2.2.1.2⟩
  have eC := eqC_of hQ hO
  have bD := bdC_of hO
  have q1 : v 3 1 = nI (α 0 1) := hI.1.1.1.2.1
  have q0 : v 3 0 = nI (α 0 0) := hI.1.1.1.1
  have M16 : α 0 1 ≤ 16 := ha.1.2.1
  have Q6 : α 0 0 ≤ 6 := ha.1.1
  show ∃ w, zTail (zcatch (fX9_wants 0 p1 v) 603 (some 1) none) (fX10_wants 116 p1) = some w ∧ sInv w
  by_cases h0 : inN p1 (α 0 1)
  · skip
    obtain ⟨m, ml, rfl⟩ := id h0
    obtain ⟨w1, hw1, f1⟩ := p_wants hQ hO ml
    refine tl_Y hs hI hM (v1 := w1) (r := sWants α l ρ m) (by unfold fX9_wants; rw [(p_needMan (x := (nI m)) q1 M16).1 h0, zbx_0, rf_0_12, hw1, zbind_some]) (f1) (fun v2 b2 => ?_)
    obtain ⟨g0, g1, g2, gQ, gD, gE⟩ := qM0 hs b2
    obtain ⟨w2, hw2, f2⟩ := p_mWants gQ hO ml
    refine ⟨w2, ?_, f2⟩
    unfold fX10_wants fX10_wants_19
    rw [zlet_eq, pmanY (x := (nI m)) g1 M16 h0, zbind_some, if_neg (show ¬ (1 : Int32) = 0 by decide), pb0 g0, zbind_some, if_pos (show (0 : Int32) = 0 from rfl), rf_116_35, Int32.zero_add, l567, zix_nI (by omega) (by omega), nI_cl' (by omega)]
    exact hw2
  · exact tl_N (z1 := 0) (y := 1) (z := 0) hs hI hM (by decide) (by unfold fX9_wants; rw [(p_needMan (x := p1) q1 M16).2 h0, zbx_1]) (by decide) ⟨fun _ => rfl, fun h => absurd h (by decide)⟩ (fun v2 b2 => by
      obtain ⟨g0, g1, g2, gQ, gD, gE⟩ := qM0 hs b2
      refine ⟨_, ?_, rfM_up v2 1 0⟩
      unfold fX10_wants fX10_wants_19
      rw [zlet_eq, pmanN (x := p1) g1 M16 h0, zbind_some, if_pos (show (0 : Int32) = 0 from rfl), pb1_10 g0, zbind_some, if_neg (show ¬ (1 : Int32) = 0 by decide)]
      rfl)
theorem case_38 {v : zV} (hInv : sInv v) (p1 : Int32) : ∃ w, fLc_38 p1 v = some w ∧ sInv w := by
  obtain ⟨α, l, β, ρ, ρb, im, tp, pl, r0, r1, hs, hI, hM⟩ := hInv
  have ha := hs.1
  have hl := hs.2.1
  have hbk := hs.2.2.1
  have hQ : CQ v α l ρ := ⟨hI.1, hI.2.2.1⟩
  have hO : OKs α l ρ := ⟨ha, hl, hs.2.2.2.1.1, hs.2.2.2.1.2⟩
  have eC := eqC_of hQ hO
  have bD := bdC_of hO
  have q1 : v 3 1 = nI (α 0 1) := hI.1.1.1.2.1
  have q0 : v 3 0 = nI (α 0 0) := hI.1.1.1.1
  have M16 : α 0 1 ≤ 16 := ha.1.2.1
  have Q6 : α 0 0 ≤ 6 := ha.1.1
  show ∃ w, zTail (zcatch (fX9_stays 0 p1 v) 603 (some 1) none) (fX10_stays 116 p1) = some w ∧ sInv w
  by_cases h0 : inN p1 (α 0 1)
  · skip
    obtain ⟨m, ml, rfl⟩ := id h0
    obtain ⟨w1, hw1, f1⟩ := p_stays hQ hO ml
    refine tl_Y hs hI hM (v1 := w1) (r := sStay α l m 61 0 ρ) (by unfold fX9_stays; rw [(p_needMan (x := (nI m)) q1 M16).1 h0, zbx_0, rf_0_12, hw1, zbind_some]) (f1) (fun v2 b2 => ?_)
    obtain ⟨g0, g1, g2, gQ, gD, gE⟩ := qM0 hs b2
    obtain ⟨w2, hw2, f2⟩ := p_mStays gQ hO ml
    refine ⟨w2, ?_, f2⟩
    unfold fX10_stays fX10_stays_19
    rw [zlet_eq, pmanY (x := (nI m)) g1 M16 h0, zbind_some, if_neg (show ¬ (1 : Int32) = 0 by decide), pb0 g0, zbind_some, if_pos (show (0 : Int32) = 0 from rfl), rf_116_35, rf_116_38]
    exact hw2
  · exact tl_N (z1 := 0) (y := 1) (z := 0) hs hI hM (by decide) (by unfold fX9_stays; rw [(p_needMan (x := p1) q1 M16).2 h0, zbx_1]) (by decide) ⟨fun _ => rfl, fun h => absurd h (by decide)⟩ (fun v2 b2 => by
      obtain ⟨g0, g1, g2, gQ, gD, gE⟩ := qM0 hs b2
      refine ⟨_, ?_, rfM_up v2 1 0⟩
      unfold fX10_stays fX10_stays_19
      rw [zlet_eq, pmanN (x := p1) g1 M16 h0, zbind_some, if_pos (show (0 : Int32) = 0 from rfl), pb1_10 g0, zbind_some, if_neg (show ¬ (1 : Int32) = 0 by decide)]
      rfl)
theorem case_39 {v : zV} (hInv : sInv v) (p1 : Int32) : ∃ w, fLc_39 p1 v = some w ∧ sInv w := by
  obtain ⟨α, l, β, ρ, ρb, im, tp, pl, r0, r1, hs, hI, hM⟩ := hInv
  have ha := hs.1
  have hl := hs.2.1
  have hbk := hs.2.2.1
  have hQ : CQ v α l ρ := ⟨hI.1, hI.2.2.1⟩
  have hO : OKs α l ρ := ⟨ha, hl, hs.2.2.2.1.1, hs.2.2.2.1.2⟩
  have eC := eqC_of hQ hO
  have bD := bdC_of hO
  have q1 : v 3 1 = nI (α 0 1) := hI.1.1.1.2.1
  have q0 : v 3 0 = nI (α 0 0) := hI.1.1.1.1
  have M16 : α 0 1 ≤ 16 := ha.1.2.1
  have Q6 : α 0 0 ≤ 6 := ha.1.1
  show ∃ w, zTail (zcatch (fX9_doomed 0 p1 v) 603 (some 1) none) (fX10_doomed 116 p1) = some w ∧ sInv w
  by_cases h0 : inN p1 (α 0 1)
  · skip
    obtain ⟨m, ml, rfl⟩ := id h0
    obtain ⟨w1, hw1, f1⟩ := p_doomed hQ hO ml
    refine tl_Y hs hI hM (v1 := w1) (r := sDoomed α ρ m) (by unfold fX9_doomed; rw [(p_needMan (x := (nI m)) q1 M16).1 h0, zbx_0, rf_0_12, hw1, zbind_some]) (f1) (fun v2 b2 => ?_)
    obtain ⟨g0, g1, g2, gQ, gD, gE⟩ := qM0 hs b2
    obtain ⟨w2, hw2, f2⟩ := p_mDoomed gQ hO ml
    refine ⟨w2, ?_, f2⟩
    unfold fX10_doomed fX10_doomed_19
    rw [zlet_eq, pmanY (x := (nI m)) g1 M16 h0, zbind_some, if_neg (show ¬ (1 : Int32) = 0 by decide), pb0 g0, zbind_some, if_pos (show (0 : Int32) = 0 from rfl), rf_116_35, rf_116_38]
    exact hw2
  · exact tl_N (z1 := 0) (y := 1) (z := 0) hs hI hM (by decide) (by unfold fX9_doomed; rw [(p_needMan (x := p1) q1 M16).2 h0, zbx_1]) (by decide) ⟨fun _ => rfl, fun h => absurd h (by decide)⟩ (fun v2 b2 => by
      obtain ⟨g0, g1, g2, gQ, gD, gE⟩ := qM0 hs b2
      refine ⟨_, ?_, rfM_up v2 1 0⟩
      unfold fX10_doomed fX10_doomed_19
      rw [zlet_eq, pmanN (x := p1) g1 M16 h0, zbind_some, if_pos (show (0 : Int32) = 0 from rfl), pb1_10 g0, zbind_some, if_neg (show ¬ (1 : Int32) = 0 by decide)]
      rfl)
theorem case_40 {v : zV} (hInv : sInv v) : ∃ w, fLc_40 v = some w ∧ sInv w := by
  obtain ⟨α, l, β, ρ, ρb, im, tp, pl, r0, r1, hs, hI, hM⟩ := hInv
  have ha := hs.1
  have hl := hs.2.1
  have hbk := hs.2.2.1
  have hQ : CQ v α l ρ := ⟨hI.1, hI.2.2.1⟩
  have hO : OKs α l ρ := ⟨ha, hl, hs.2.2.2.1.1, hs.2.2.2.1.2⟩
  have eC := eqC_of hQ hO
  have bD := bdC_of hO
  have q1 : v 3 1 = nI (α 0 1) := hI.1.1.1.2.1
  have q0 : v 3 0 = nI (α 0 0) := hI.1.1.1.1
  have M16 : α 0 1 ≤ 16 := ha.1.2.1
  have Q6 : α 0 0 ≤ 6 := ha.1.1
  show ∃ w, zTwo (fX9_seams 0 v) (fX10_seams 116) = some w ∧ sInv w
  refine tl_2 hs hI hM (v1 := v) (r := sSeams α ρ) (by unfold fX9_seams; rw [rf_0_14, p_seams eC bD, zbind_some]) (frC_rf v) (fun v2 b2 => ?_)
  obtain ⟨g0, g1, g2, gQ, gD, gE⟩ := qM0 hs b2
  refine ⟨_, ?_, frM_rf _⟩
  unfold fX10_seams 
  rw [zlet_eq]
  exact p_mSeams gE bD
theorem case_41 {v : zV} (hInv : sInv v) : ∃ w, fLc_41 v = some w ∧ sInv w := by
  obtain ⟨α, l, β, ρ, ρb, im, tp, pl, r0, r1, hs, hI, hM⟩ := hInv
  have ha := hs.1
  have hl := hs.2.1
  have hbk := hs.2.2.1
  have hQ : CQ v α l ρ := ⟨hI.1, hI.2.2.1⟩
  have hO : OKs α l ρ := ⟨ha, hl, hs.2.2.2.1.1, hs.2.2.2.1.2⟩
  have eC := eqC_of hQ hO
  have bD := bdC_of hO
  have q1 : v 3 1 = nI (α 0 1) := hI.1.1.1.2.1
  have q0 : v 3 0 = nI (α 0 0) := hI.1.1.1.1
  have M16 : α 0 1 ≤ 16 := ha.1.2.1
  have Q6 : α 0 0 ≤ 6 := ha.1.1
  show ∃ w, zTwo (fX9_ringed 0 v) (fX10_ringed 116) = some w ∧ sInv w
  refine tl_2 hs hI hM (v1 := v) (r := sRinged α ρ) (by unfold fX9_ringed; rw [rf_0_14, p_ringed eC bD, zbind_some]) (frC_rf v) (fun v2 b2 => ?_)
  obtain ⟨g0, g1, g2, gQ, gD, gE⟩ := qM0 hs b2
  refine ⟨_, ?_, frM_rf _⟩
  unfold fX10_ringed 
  rw [zlet_eq]
  exact p_mRinged gE bD
theorem case_42 {v : zV} (hInv : sInv v) (p1 : Int32) : ∃ w, fLc_42 p1 v = some w ∧ sInv w := by
  obtain ⟨α, l, β, ρ, ρb, im, tp, pl, r0, r1, hs, hI, hM⟩ := hInv
  have ha := hs.1
  have hl := hs.2.1
  have hbk := hs.2.2.1
  have hQ : CQ v α l ρ := ⟨hI.1, hI.2.2.1⟩
  have hO : OKs α l ρ := ⟨ha, hl, hs.2.2.2.1.1, hs.2.2.2.1.2⟩
  have eC := eqC_of hQ hO
  have bD := bdC_of hO
  have q1 : v 3 1 = nI (α 0 1) := hI.1.1.1.2.1
  have q0 : v 3 0 = nI (α 0 0) := hI.1.1.1.1
  have M16 : α 0 1 ≤ 16 := ha.1.2.1
  have Q6 : α 0 0 ≤ 6 := ha.1.1
  show ∃ w, zTail (zcatch (fX9_pair 0 p1 v) 603 none (some 1)) (fX10_pair 116 p1) = some w ∧ sInv w
  by_cases h0 : inB p1 0 2
  · skip
    obtain ⟨t, tl, th, rfl⟩ := id h0
    refine tl_Y hs hI hM (v1 := v) (r := sPairO (sPair α ρ) t) (by unfold fX9_pair; rw [pwY (x := (nI t)) (lo := 0) (hi := 2) (a := 0) (b := 2) (by decide) (by decide) rfl rfl h0, zbind_some, pneedY, zbx_0, rf_0_14, p_pair eC bD th, zbind_some]) (frC_rf v) (fun v2 b2 => ?_)
    obtain ⟨g0, g1, g2, gQ, gD, gE⟩ := qM0 hs b2
    refine ⟨_, ?_, frM_rf _⟩
    unfold fX10_pair fX10_pair_20
    rw [zlet_eq, pinY (x := (nI t)) (lo := 0) (hi := 2) (a := 0) (b := 2) (by decide) (by decide) rfl rfl h0, zbind_some, if_neg (show ¬ (1 : Int32) = 0 by decide), pb0 g0, zbind_some, if_pos (show (0 : Int32) = 0 from rfl)]
    exact p_mPair gE bD th
  · exact tl_N (z1 := 1) (y := 1) (z := 0) hs hI hM (by decide) (by unfold fX9_pair; rw [pwN (x := p1) (lo := 0) (hi := 2) (a := 0) (b := 2) (by decide) (by decide) rfl rfl h0, zbind_some, pneedN, zbx_2]) (by decide) ⟨fun h => absurd h (by decide), fun _ => rfl⟩ (fun v2 b2 => by
      obtain ⟨g0, g1, g2, gQ, gD, gE⟩ := qM0 hs b2
      refine ⟨_, ?_, rfM_up v2 1 1⟩
      unfold fX10_pair fX10_pair_20
      rw [zlet_eq, pinN (x := p1) (lo := 0) (hi := 2) (a := 0) (b := 2) (by decide) (by decide) rfl rfl h0, zbind_some, if_pos (show (0 : Int32) = 0 from rfl), pb1_11 g0, zbind_some, if_neg (show ¬ (1 : Int32) = 0 by decide)]
      rfl)
theorem case_43 {v : zV} (hInv : sInv v) (p1 : Int32) : ∃ w, fLc_43 p1 v = some w ∧ sInv w := by
  obtain ⟨α, l, β, ρ, ρb, im, tp, pl, r0, r1, hs, hI, hM⟩ := hInv
  have ha := hs.1
  have hl := hs.2.1
  have hbk := hs.2.2.1
  have hQ : CQ v α l ρ := ⟨hI.1, hI.2.2.1⟩
  have hO : OKs α l ρ := ⟨ha, hl, hs.2.2.2.1.1, hs.2.2.2.1.2⟩
  have eC := eqC_of hQ hO
  have bD := bdC_of hO
  have q1 : v 3 1 = nI (α 0 1) := hI.1.1.1.2.1
  have q0 : v 3 0 = nI (α 0 0) := hI.1.1.1.1
  have M16 : α 0 1 ≤ 16 := ha.1.2.1
  have Q6 : α 0 0 ≤ 6 := ha.1.1
  show ∃ w, zTail (zcatch (fX9_quorum 0 p1 v) 603 (some 1) none) (fX10_quorum 116 p1) = some w ∧ sInv w
  by_cases h0 : inN p1 (α 0 0)
  · skip
    obtain ⟨q, ql, rfl⟩ := id h0
    obtain ⟨w1, hw1, f1⟩ := p_quorum hQ hO ql
    refine tl_Y hs hI hM (v1 := w1) (r := nI (sQuorum α ρ q)) (by unfold fX9_quorum; rw [(p_needQ (x := (nI q)) q0 Q6).1 h0, zbx_0, rf_0_14, hw1, zbind_some]) (fun a _ _ g => f1 a (by omega)) (fun v2 b2 => ?_)
    obtain ⟨g0, g1, g2, gQ, gD, gE⟩ := qM0 hs b2
    obtain ⟨w2, hw2, f2⟩ := p_mQuorum gQ hO ql
    refine ⟨w2, ?_, frM_c (r := 602) (by decide) (by decide) f2⟩
    unfold fX10_quorum fX10_quorum_19
    rw [zlet_eq, pquY (x := (nI q)) g2 Q6 h0, zbind_some, if_neg (show ¬ (1 : Int32) = 0 by decide), pb0 g0, zbind_some, if_pos (show (0 : Int32) = 0 from rfl), rf_116_35, l567, zx61, c61, p61 gQ]
    exact hw2
  · exact tl_N (z1 := 0) (y := 1) (z := 0) hs hI hM (by decide) (by unfold fX9_quorum; rw [(p_needQ (x := p1) q0 Q6).2 h0, zbx_1]) (by decide) ⟨fun _ => rfl, fun h => absurd h (by decide)⟩ (fun v2 b2 => by
      obtain ⟨g0, g1, g2, gQ, gD, gE⟩ := qM0 hs b2
      refine ⟨_, ?_, rfM_up v2 1 0⟩
      unfold fX10_quorum fX10_quorum_19
      rw [zlet_eq, pquN (x := p1) g2 Q6 h0, zbind_some, if_pos (show (0 : Int32) = 0 from rfl), pb1_10 g0, zbind_some, if_neg (show ¬ (1 : Int32) = 0 by decide)]
      rfl)
theorem case_44 {v : zV} (hInv : sInv v) : ∃ w, fLc_44 v = some w ∧ sInv w := by
  obtain ⟨α, l, β, ρ, ρb, im, tp, pl, r0, r1, hs, hI, hM⟩ := hInv
  have ha := hs.1
  have hl := hs.2.1
  have hbk := hs.2.2.1
  have hQ : CQ v α l ρ := ⟨hI.1, hI.2.2.1⟩
  have hO : OKs α l ρ := ⟨ha, hl, hs.2.2.2.1.1, hs.2.2.2.1.2⟩
  have eC := eqC_of hQ hO
  have bD := bdC_of hO
  have q1 : v 3 1 = nI (α 0 1) := hI.1.1.1.2.1
  have q0 : v 3 0 = nI (α 0 0) := hI.1.1.1.1
  have M16 : α 0 1 ≤ 16 := ha.1.2.1
  have Q6 : α 0 0 ≤ 6 := ha.1.1
  show ∃ w, zTwo (fX9_kin 0 v) (fX10_kin 116) = some w ∧ sInv w
  refine tl_2 hs hI hM (v1 := v) (r := nI (sKin α ρ)) (by unfold fX9_kin; rw [rf_0_14, p_kin eC bD, zbind_some]) (frC_rf v) (fun v2 b2 => ?_)
  obtain ⟨g0, g1, g2, gQ, gD, gE⟩ := qM0 hs b2
  refine ⟨_, ?_, frM_rf _⟩
  unfold fX10_kin 
  rw [zlet_eq]
  exact p_mKin gE bD
theorem case_45 {v : zV} (hInv : sInv v) (p1 : Int32) : ∃ w, fLc_45 p1 v = some w ∧ sInv w := by
  obtain ⟨α, l, β, ρ, ρb, im, tp, pl, r0, r1, hs, hI, hM⟩ := hInv
  have ha := hs.1
  have hl := hs.2.1
  have hbk := hs.2.2.1
  have hQ : CQ v α l ρ := ⟨hI.1, hI.2.2.1⟩
  have hO : OKs α l ρ := ⟨ha, hl, hs.2.2.2.1.1, hs.2.2.2.1.2⟩
  have eC := eqC_of hQ hO
  have bD := bdC_of hO
  have q1 : v 3 1 = nI (α 0 1) := hI.1.1.1.2.1
  have q0 : v 3 0 = nI (α 0 0) := hI.1.1.1.1
  have M16 : α 0 1 ≤ 16 := ha.1.2.1
  have Q6 : α 0 0 ≤ 6 := ha.1.1
  show ∃ w, zTail (zcatch (fX9_heir 0 p1 v) 603 (some 1) none) (fX10_heir 116 p1) = some w ∧ sInv w
  by_cases h0 : inN p1 (α 0 1)
  · skip
    obtain ⟨m, ml, rfl⟩ := id h0
    obtain ⟨w1, hw1, f1⟩ := p_heir hQ hO ml
    refine tl_Y hs hI hM (v1 := w1) (r := sHeirOf α l ρ m) (by unfold fX9_heir; rw [(p_needMan (x := (nI m)) q1 M16).1 h0, zbx_0, rf_0_12, hw1, zbind_some]) (f1) (fun v2 b2 => ?_)
    obtain ⟨g0, g1, g2, gQ, gD, gE⟩ := qM0 hs b2
    obtain ⟨w2, hw2, f2⟩ := p_mHeir gQ hO ml
    refine ⟨w2, ?_, f2⟩
    unfold fX10_heir fX10_heir_19
    rw [zlet_eq, pmanY (x := (nI m)) g1 M16 h0, zbind_some, if_neg (show ¬ (1 : Int32) = 0 by decide), pb0 g0, zbind_some, if_pos (show (0 : Int32) = 0 from rfl), rf_116_35, Int32.zero_add, l567, zix_nI (by omega) (by omega), nI_cl' (by omega), rf_116_38]
    exact hw2
  · exact tl_N (z1 := 0) (y := 1) (z := 0) hs hI hM (by decide) (by unfold fX9_heir; rw [(p_needMan (x := p1) q1 M16).2 h0, zbx_1]) (by decide) ⟨fun _ => rfl, fun h => absurd h (by decide)⟩ (fun v2 b2 => by
      obtain ⟨g0, g1, g2, gQ, gD, gE⟩ := qM0 hs b2
      refine ⟨_, ?_, rfM_up v2 1 0⟩
      unfold fX10_heir fX10_heir_19
      rw [zlet_eq, pmanN (x := p1) g1 M16 h0, zbind_some, if_pos (show (0 : Int32) = 0 from rfl), pb1_10 g0, zbind_some, if_neg (show ¬ (1 : Int32) = 0 by decide)]
      rfl)
theorem case_46 {v : zV} (hInv : sInv v) (p1 p2 p3 p4 : Int32) : ∃ w, fLc_46 p1 p2 p3 p4 v = some w ∧ sInv w := by
  obtain ⟨α, l, β, ρ, ρb, im, tp, pl, r0, r1, hs, hI, hM⟩ := hInv
  have ha := hs.1
  have hl := hs.2.1
  have hbk := hs.2.2.1
  have hQ : CQ v α l ρ := ⟨hI.1, hI.2.2.1⟩
  have hO : OKs α l ρ := ⟨ha, hl, hs.2.2.2.1.1, hs.2.2.2.1.2⟩
  have eC := eqC_of hQ hO
  have bD := bdC_of hO
  have q1 : v 3 1 = nI (α 0 1) := hI.1.1.1.2.1
  have q0 : v 3 0 = nI (α 0 0) := hI.1.1.1.1
  have M16 : α 0 1 ≤ 16 := ha.1.2.1
  have Q6 : α 0 0 ≤ 6 := ha.1.1
  show ∃ w, zTail (zcatch (fX9_fates 0 p1 p2 p3 p4 v) 603 none (some 1)) (fX10_fates 116 p1 p2 p3 p4) = some w ∧ sInv w
  by_cases h0 : inB p2 0 16
  · skip
    by_cases h1 : inB p3 1 40
    · skip
      by_cases h2 : inB p4 0 3
      · skip
        obtain ⟨q, ql, qh, rfl⟩ := id h0
        obtain ⟨y, yl, yh, rfl⟩ := id h1
        obtain ⟨t, tl, th, rfl⟩ := id h2
        obtain ⟨w1, hw1, f1⟩ := p_fates hQ hO qh yh th p1
        refine tl_Y hs hI hM (v1 := w1) (r := sFateA ρ (sFg α l q y p1 ρ) t) (by unfold fX9_fates; rw [pwY (x := (nI q)) (lo := 0) (hi := 16) (a := 0) (b := 16) (by decide) (by decide) rfl rfl h0, zbind_some, pneedY, zbx_0, pwY (x := (nI y)) (lo := 1) (hi := 40) (a := 1) (b := 40) (by decide) (by decide) rfl rfl h1, zbind_some, pneedY, zbx_0, pwY (x := (nI t)) (lo := 0) (hi := 3) (a := 0) (b := 3) (by decide) (by decide) rfl rfl h2, zbind_some, pneedY, zbx_0, rf_0_12, hw1, zbind_some]) (f1) (fun v2 b2 => ?_)
        obtain ⟨g0, g1, g2, gQ, gD, gE⟩ := qM0 hs b2
        obtain ⟨w2, hw2, f2⟩ := p_mFatesQ gQ hO qh yh th p1
        refine ⟨w2, ?_, f2 g0⟩
        unfold fX10_fates
        rw [zlet_eq, pinY (x := (nI q)) (lo := 0) (hi := 16) (a := 0) (b := 16) (by decide) (by decide) rfl rfl h0, zbind_some, if_neg (show ¬ (1 : Int32) = 0 by decide), pinY (x := (nI y)) (lo := 1) (hi := 40) (a := 1) (b := 40) (by decide) (by decide) rfl rfl h1, zbind_some, if_neg (show ¬ (1 : Int32) = 0 by decide), pinY (x := (nI t)) (lo := 0) (hi := 3) (a := 0) (b := 3) (by decide) (by decide) rfl rfl h2, zbind_some, if_neg (show ¬ (1 : Int32) = 0 by decide), hw2, pb0 g0, zbind_some, if_pos (show (0 : Int32) = 0 from rfl)]
      · exact tl_N (z1 := 1) (y := 1) (z := 0) hs hI hM (by decide) (by unfold fX9_fates; rw [pwY (x := p2) (lo := 0) (hi := 16) (a := 0) (b := 16) (by decide) (by decide) rfl rfl h0, zbind_some, pneedY, zbx_0, pwY (x := p3) (lo := 1) (hi := 40) (a := 1) (b := 40) (by decide) (by decide) rfl rfl h1, zbind_some, pneedY, zbx_0, pwN (x := p4) (lo := 0) (hi := 3) (a := 0) (b := 3) (by decide) (by decide) rfl rfl h2, zbind_some, pneedN, zbx_2]) (by decide) ⟨fun h => absurd h (by decide), fun _ => rfl⟩ (fun v2 b2 => by
          obtain ⟨g0, g1, g2, gQ, gD, gE⟩ := qM0 hs b2
          refine ⟨_, ?_, rfM_up v2 1 1⟩
          unfold fX10_fates fX10_fates_41
          rw [zlet_eq, pinY (x := p2) (lo := 0) (hi := 16) (a := 0) (b := 16) (by decide) (by decide) rfl rfl h0, zbind_some, if_neg (show ¬ (1 : Int32) = 0 by decide), pinY (x := p3) (lo := 1) (hi := 40) (a := 1) (b := 40) (by decide) (by decide) rfl rfl h1, zbind_some, if_neg (show ¬ (1 : Int32) = 0 by decide), pinN (x := p4) (lo := 0) (hi := 3) (a := 0) (b := 3) (by decide) (by decide) rfl rfl h2, zbind_some, if_pos (show (0 : Int32) = 0 from rfl), pb1_11 g0, zbind_some, if_neg (show ¬ (1 : Int32) = 0 by decide)]
          rfl)
    · exact tl_N (z1 := 1) (y := 1) (z := 0) hs hI hM (by decide) (by unfold fX9_fates; rw [pwY (x := p2) (lo := 0) (hi := 16) (a := 0) (b := 16) (by decide) (by decide) rfl rfl h0, zbind_some, pneedY, zbx_0, pwN (x := p3) (lo := 1) (hi := 40) (a := 1) (b := 40) (by decide) (by decide) rfl rfl h1, zbind_some, pneedN, zbx_2]) (by decide) ⟨fun h => absurd h (by decide), fun _ => rfl⟩ (fun v2 b2 => by
        obtain ⟨g0, g1, g2, gQ, gD, gE⟩ := qM0 hs b2
        refine ⟨_, ?_, rfM_up v2 1 1⟩
        unfold fX10_fates fX10_fates_41
        rw [zlet_eq, pinY (x := p2) (lo := 0) (hi := 16) (a := 0) (b := 16) (by decide) (by decide) rfl rfl h0, zbind_some, if_neg (show ¬ (1 : Int32) = 0 by decide), pinN (x := p3) (lo := 1) (hi := 40) (a := 1) (b := 40) (by decide) (by decide) rfl rfl h1, zbind_some, if_pos (show (0 : Int32) = 0 from rfl), pb1_11 g0, zbind_some, if_neg (show ¬ (1 : Int32) = 0 by decide)]
        rfl)
  · exact tl_N (z1 := 1) (y := 1) (z := 0) hs hI hM (by decide) (by unfold fX9_fates; rw [pwN (x := p2) (lo := 0) (hi := 16) (a := 0) (b := 16) (by decide) (by decide) rfl rfl h0, zbind_some, pneedN, zbx_2]) (by decide) ⟨fun h => absurd h (by decide), fun _ => rfl⟩ (fun v2 b2 => by
      obtain ⟨g0, g1, g2, gQ, gD, gE⟩ := qM0 hs b2
      refine ⟨_, ?_, rfM_up v2 1 1⟩
      unfold fX10_fates fX10_fates_41
      rw [zlet_eq, pinN (x := p2) (lo := 0) (hi := 16) (a := 0) (b := 16) (by decide) (by decide) rfl rfl h0, zbind_some, if_pos (show (0 : Int32) = 0 from rfl), pb1_11 g0, zbind_some, if_neg (show ¬ (1 : Int32) = 0 by decide)]
      rfl)
theorem case_47 {v : zV} (hInv : sInv v) (p1 p2 p3 p4 p5 p6 : Int32) : ∃ w, fLc_47 p1 p2 p3 p4 p5 p6 v = some w ∧ sInv w := by
  obtain ⟨α, l, β, ρ, ρb, im, tp, pl, r0, r1, hs, hI, hM⟩ := hInv
  have ha := hs.1
  have hl := hs.2.1
  have hbk := hs.2.2.1
  have hQ : CQ v α l ρ := ⟨hI.1, hI.2.2.1⟩
  have hO : OKs α l ρ := ⟨ha, hl, hs.2.2.2.1.1, hs.2.2.2.1.2⟩
  have eC := eqC_of hQ hO
  have bD := bdC_of hO
  have q1 : v 3 1 = nI (α 0 1) := hI.1.1.1.2.1
  have q0 : v 3 0 = nI (α 0 0) := hI.1.1.1.1
  have M16 : α 0 1 ≤ 16 := ha.1.2.1
  have Q6 : α 0 0 ≤ 6 := ha.1.1
  show ∃ w, zTail (zcatch (fX9_span 0 p1 p2 p3 p4 p5 p6 v) 603 none (some 1)) (fX10_span 116 p1 p2 p3 p4 p5 p6) = some w ∧ sInv w
  by_cases h0 : inB p2 1 20
  · skip
    by_cases h1 : inB p3 0 16
    · skip
      by_cases h2 : inB p4 1 40
      · skip
        by_cases h3 : inB p5 0 2
        · skip
          by_cases h4 : inN p6 (α 0 1)
          · skip
            obtain ⟨u, ul, uh, rfl⟩ := id h0
            obtain ⟨q, ql, qh, rfl⟩ := id h1
            obtain ⟨y, yl, yh, rfl⟩ := id h2
            obtain ⟨t, tl, th, rfl⟩ := id h3
            obtain ⟨m, ml, rfl⟩ := id h4
            obtain ⟨w1, hw1, ⟨s1, s2, s3⟩, f1⟩ := p_span hQ hO uh qh yh ml p1
            refine tl_Y hs hI hM (v1 := w1) (r := sSpO (sSpan α l ρ p1 u q y m) t) (by unfold fX9_span; rw [pwY (x := (nI u)) (lo := 1) (hi := 20) (a := 1) (b := 20) (by decide) (by decide) rfl rfl h0, zbind_some, pneedY, zbx_0, pwY (x := (nI q)) (lo := 0) (hi := 16) (a := 0) (b := 16) (by decide) (by decide) rfl rfl h1, zbind_some, pneedY, zbx_0, pwY (x := (nI y)) (lo := 1) (hi := 40) (a := 1) (b := 40) (by decide) (by decide) rfl rfl h2, zbind_some, pneedY, zbx_0, pwY (x := (nI t)) (lo := 0) (hi := 2) (a := 0) (b := 2) (by decide) (by decide) rfl rfl h3, zbind_some, pneedY, zbx_0, rf_0_1, q1, pwNY (x := (nI m)) (by omega) h4, zbind_some, pneedY, zbx_0, rf_0_12, hw1, zbindv_some, s1, s2, s3]; exact pT4 th) (f1) (fun v2 b2 => ?_)
            obtain ⟨g0, g1, g2, gQ, gD, gE⟩ := qM0 hs b2
            obtain ⟨w2, hw2, f2⟩ := p_mSpan gQ hO ul uh qh yh ml th p1
            refine ⟨w2, ?_, f2⟩
            unfold fX10_span fX10_span_61
            rw [zlet_eq, pinY (x := (nI u)) (lo := 1) (hi := 20) (a := 1) (b := 20) (by decide) (by decide) rfl rfl h0, zbind_some, if_neg (show ¬ (1 : Int32) = 0 by decide), pinY (x := (nI q)) (lo := 0) (hi := 16) (a := 0) (b := 16) (by decide) (by decide) rfl rfl h1, zbind_some, if_neg (show ¬ (1 : Int32) = 0 by decide), pinY (x := (nI y)) (lo := 1) (hi := 40) (a := 1) (b := 40) (by decide) (by decide) rfl rfl h2, zbind_some, if_neg (show ¬ (1 : Int32) = 0 by decide), pinY (x := (nI t)) (lo := 0) (hi := 2) (a := 0) (b := 2) (by decide) (by decide) rfl rfl h3, zbind_some, if_neg (show ¬ (1 : Int32) = 0 by decide), pmanY (x := (nI m)) g1 M16 h4, zbind_some, if_neg (show ¬ (1 : Int32) = 0 by decide), pb0 g0, zbind_some, if_pos (show (0 : Int32) = 0 from rfl)]
            exact hw2
          · exact tl_N (z1 := 1) (y := 1) (z := 0) hs hI hM (by decide) (by unfold fX9_span; rw [pwY (x := p2) (lo := 1) (hi := 20) (a := 1) (b := 20) (by decide) (by decide) rfl rfl h0, zbind_some, pneedY, zbx_0, pwY (x := p3) (lo := 0) (hi := 16) (a := 0) (b := 16) (by decide) (by decide) rfl rfl h1, zbind_some, pneedY, zbx_0, pwY (x := p4) (lo := 1) (hi := 40) (a := 1) (b := 40) (by decide) (by decide) rfl rfl h2, zbind_some, pneedY, zbx_0, pwY (x := p5) (lo := 0) (hi := 2) (a := 0) (b := 2) (by decide) (by decide) rfl rfl h3, zbind_some, pneedY, zbx_0, rf_0_1, q1, pwNN (x := p6) (by omega) h4, zbind_some, pneedN, zbx_2]) (by decide) ⟨fun h => absurd h (by decide), fun _ => rfl⟩ (fun v2 b2 => by
              obtain ⟨g0, g1, g2, gQ, gD, gE⟩ := qM0 hs b2
              refine ⟨_, ?_, rfM_up v2 1 1⟩
              unfold fX10_span fX10_span_61
              rw [zlet_eq, pinY (x := p2) (lo := 1) (hi := 20) (a := 1) (b := 20) (by decide) (by decide) rfl rfl h0, zbind_some, if_neg (show ¬ (1 : Int32) = 0 by decide), pinY (x := p3) (lo := 0) (hi := 16) (a := 0) (b := 16) (by decide) (by decide) rfl rfl h1, zbind_some, if_neg (show ¬ (1 : Int32) = 0 by decide), pinY (x := p4) (lo := 1) (hi := 40) (a := 1) (b := 40) (by decide) (by decide) rfl rfl h2, zbind_some, if_neg (show ¬ (1 : Int32) = 0 by decide), pinY (x := p5) (lo := 0) (hi := 2) (a := 0) (b := 2) (by decide) (by decide) rfl rfl h3, zbind_some, if_neg (show ¬ (1 : Int32) = 0 by decide), pmanN (x := p6) g1 M16 h4, zbind_some, if_pos (show (0 : Int32) = 0 from rfl), pb1_11 g0, zbind_some, if_neg (show ¬ (1 : Int32) = 0 by decide)]
              rfl)
        · exact tl_N (z1 := 1) (y := 1) (z := 0) hs hI hM (by decide) (by unfold fX9_span; rw [pwY (x := p2) (lo := 1) (hi := 20) (a := 1) (b := 20) (by decide) (by decide) rfl rfl h0, zbind_some, pneedY, zbx_0, pwY (x := p3) (lo := 0) (hi := 16) (a := 0) (b := 16) (by decide) (by decide) rfl rfl h1, zbind_some, pneedY, zbx_0, pwY (x := p4) (lo := 1) (hi := 40) (a := 1) (b := 40) (by decide) (by decide) rfl rfl h2, zbind_some, pneedY, zbx_0, pwN (x := p5) (lo := 0) (hi := 2) (a := 0) (b := 2) (by decide) (by decide) rfl rfl h3, zbind_some, pneedN, zbx_2]) (by decide) ⟨fun h => absurd h (by decide), fun _ => rfl⟩ (fun v2 b2 => by
            obtain ⟨g0, g1, g2, gQ, gD, gE⟩ := qM0 hs b2
            refine ⟨_, ?_, rfM_up v2 1 1⟩
            unfold fX10_span fX10_span_61
            rw [zlet_eq, pinY (x := p2) (lo := 1) (hi := 20) (a := 1) (b := 20) (by decide) (by decide) rfl rfl h0, zbind_some, if_neg (show ¬ (1 : Int32) = 0 by decide), pinY (x := p3) (lo := 0) (hi := 16) (a := 0) (b := 16) (by decide) (by decide) rfl rfl h1, zbind_some, if_neg (show ¬ (1 : Int32) = 0 by decide), pinY (x := p4) (lo := 1) (hi := 40) (a := 1) (b := 40) (by decide) (by decide) rfl rfl h2, zbind_some, if_neg (show ¬ (1 : Int32) = 0 by decide), pinN (x := p5) (lo := 0) (hi := 2) (a := 0) (b := 2) (by decide) (by decide) rfl rfl h3, zbind_some, if_pos (show (0 : Int32) = 0 from rfl), pb1_11 g0, zbind_some, if_neg (show ¬ (1 : Int32) = 0 by decide)]
            rfl)
      · exact tl_N (z1 := 1) (y := 1) (z := 0) hs hI hM (by decide) (by unfold fX9_span; rw [pwY (x := p2) (lo := 1) (hi := 20) (a := 1) (b := 20) (by decide) (by decide) rfl rfl h0, zbind_some, pneedY, zbx_0, pwY (x := p3) (lo := 0) (hi := 16) (a := 0) (b := 16) (by decide) (by decide) rfl rfl h1, zbind_some, pneedY, zbx_0, pwN (x := p4) (lo := 1) (hi := 40) (a := 1) (b := 40) (by decide) (by decide) rfl rfl h2, zbind_some, pneedN, zbx_2]) (by decide) ⟨fun h => absurd h (by decide), fun _ => rfl⟩ (fun v2 b2 => by
          obtain ⟨g0, g1, g2, gQ, gD, gE⟩ := qM0 hs b2
          refine ⟨_, ?_, rfM_up v2 1 1⟩
          unfold fX10_span fX10_span_61
          rw [zlet_eq, pinY (x := p2) (lo := 1) (hi := 20) (a := 1) (b := 20) (by decide) (by decide) rfl rfl h0, zbind_some, if_neg (show ¬ (1 : Int32) = 0 by decide), pinY (x := p3) (lo := 0) (hi := 16) (a := 0) (b := 16) (by decide) (by decide) rfl rfl h1, zbind_some, if_neg (show ¬ (1 : Int32) = 0 by decide), pinN (x := p4) (lo := 1) (hi := 40) (a := 1) (b := 40) (by decide) (by decide) rfl rfl h2, zbind_some, if_pos (show (0 : Int32) = 0 from rfl), pb1_11 g0, zbind_some, if_neg (show ¬ (1 : Int32) = 0 by decide)]
          rfl)
    · exact tl_N (z1 := 1) (y := 1) (z := 0) hs hI hM (by decide) (by unfold fX9_span; rw [pwY (x := p2) (lo := 1) (hi := 20) (a := 1) (b := 20) (by decide) (by decide) rfl rfl h0, zbind_some, pneedY, zbx_0, pwN (x := p3) (lo := 0) (hi := 16) (a := 0) (b := 16) (by decide) (by decide) rfl rfl h1, zbind_some, pneedN, zbx_2]) (by decide) ⟨fun h => absurd h (by decide), fun _ => rfl⟩ (fun v2 b2 => by
        obtain ⟨g0, g1, g2, gQ, gD, gE⟩ := qM0 hs b2
        refine ⟨_, ?_, rfM_up v2 1 1⟩
        unfold fX10_span fX10_span_61
        rw [zlet_eq, pinY (x := p2) (lo := 1) (hi := 20) (a := 1) (b := 20) (by decide) (by decide) rfl rfl h0, zbind_some, if_neg (show ¬ (1 : Int32) = 0 by decide), pinN (x := p3) (lo := 0) (hi := 16) (a := 0) (b := 16) (by decide) (by decide) rfl rfl h1, zbind_some, if_pos (show (0 : Int32) = 0 from rfl), pb1_11 g0, zbind_some, if_neg (show ¬ (1 : Int32) = 0 by decide)]
        rfl)
  · exact tl_N (z1 := 1) (y := 1) (z := 0) hs hI hM (by decide) (by unfold fX9_span; rw [pwN (x := p2) (lo := 1) (hi := 20) (a := 1) (b := 20) (by decide) (by decide) rfl rfl h0, zbind_some, pneedN, zbx_2]) (by decide) ⟨fun h => absurd h (by decide), fun _ => rfl⟩ (fun v2 b2 => by
      obtain ⟨g0, g1, g2, gQ, gD, gE⟩ := qM0 hs b2
      refine ⟨_, ?_, rfM_up v2 1 1⟩
      unfold fX10_span fX10_span_61
      rw [zlet_eq, pinN (x := p2) (lo := 1) (hi := 20) (a := 1) (b := 20) (by decide) (by decide) rfl rfl h0, zbind_some, if_pos (show (0 : Int32) = 0 from rfl), pb1_11 g0, zbind_some, if_neg (show ¬ (1 : Int32) = 0 by decide)]
      rfl)
end
