/-! THE QUESTIONS, call by call (by program: genq.py) -/
section
theorem case_11 {v : zV} (hInv : sInv v) (p1 : Int32) : ∃ w, fLc_11 p1 v = some w ∧ sInv w := by
  obtain ⟨α, l, β, ρ, ρb, im, tp, pl, r0, r1, hs, hI, hM⟩ := hInv
  have ha := hs.1
  have hl := hs.2.1
  have hbk := hs.2.2.1
  have hQ : CQ v α l ρ := ⟨hI.1, hI.2.2.1⟩
  have hO : OKs α l ρ := ⟨ha, hl, hs.2.2.2.1.1, hs.2.2.2.1.2⟩
  have eC := eqC_of hQ hO
  have bD := bdC_of hO
  have q1 : v 3 1 = nI (α 0 1) := hI.1.1.1.2.1
  have q0 : v 3 0 = nI (α 0 0) := hI.1.1.1.1
  have M16 : α 0 1 ≤ 16 := ha.1.2.1
  have Q6 : α 0 0 ≤ 6 := ha.1.1
  show ∃ w, zTail (zcatch (fX9_score 0 p1 v) 603 (some 1) none) (fX10_score 116 p1) = some w ∧ sInv w
  by_cases h0 : inN p1 (α 0 1)
  · skip
    obtain ⟨m, ml, rfl⟩ := id h0
    obtain ⟨w1, hw1, f1⟩ := p_scoreQ hQ hO ml
    refine tl_Y hs hI hM (v1 := w1) (r := sScore α l ρ m) (by unfold fX9_score; rw [(p_needMan (x := (nI m)) q1 M16).1 h0, zbx_0, rf_0_11, rf_0_7, hw1, zbind_some]) (f1) (fun v2 b2 => ?_)
    obtain ⟨g0, g1, g2, gQ, gD, gE⟩ := qM0 hs b2
    obtain ⟨w2, hw2, f2⟩ := p_mScoreQ gQ hO ml
    refine ⟨w2, ?_, f2⟩
    unfold fX10_score fX10_score_19
    rw [zlet_eq, pmanY (x := (nI m)) g1 M16 h0, zbind_some, if_neg (show ¬ (1 : Int32) = 0 by decide), pb0 g0, zbind_some, if_pos (show (0 : Int32) = 0 from rfl), rf_116_35, hw2, zbind_some]
  · exact tl_N (z1 := 0) (y := 1) (z := 0) hs hI hM (by decide) (by unfold fX9_score; rw [(p_needMan (x := p1) q1 M16).2 h0, zbx_1]) (by decide) ⟨fun _ => rfl, fun h => absurd h (by decide)⟩ (fun v2 b2 => by
      obtain ⟨g0, g1, g2, gQ, gD, gE⟩ := qM0 hs b2
      refine ⟨_, ?_, rfM_up v2 1 0⟩
      unfold fX10_score fX10_score_19
      rw [zlet_eq, pmanN (x := p1) g1 M16 h0, zbind_some, if_pos (show (0 : Int32) = 0 from rfl), pb1_10 g0, zbind_some, if_neg (show ¬ (1 : Int32) = 0 by decide)]
      rfl)
theorem case_12 {v : zV} (hInv : sInv v) : ∃ w, fLc_12 v = some w ∧ sInv w := by
  obtain ⟨α, l, β, ρ, ρb, im, tp, pl, r0, r1, hs, hI, hM⟩ := hInv
  have ha := hs.1
  have hl := hs.2.1
  have hbk := hs.2.2.1
  have hQ : CQ v α l ρ := ⟨hI.1, hI.2.2.1⟩
  have hO : OKs α l ρ := ⟨ha, hl, hs.2.2.2.1.1, hs.2.2.2.1.2⟩
  have eC := eqC_of hQ hO
  have bD := bdC_of hO
  have q1 : v 3 1 = nI (α 0 1) := hI.1.1.1.2.1
  have q0 : v 3 0 = nI (α 0 0) := hI.1.1.1.1
  have M16 : α 0 1 ≤ 16 := ha.1.2.1
  have Q6 : α 0 0 ≤ 6 := ha.1.1
  show ∃ w, zTwo (fX9_next 0 v) (fX10_next 116) = some w ∧ sInv w
  obtain ⟨w1, hw1, f1⟩ := p_next hQ hO
  refine tl_2 hs hI hM (v1 := w1) (r := oI (sPass α l ρ).1) (by unfold fX9_next; rw [rf_0_12, hw1, zbind_some]) (f1) (fun v2 b2 => ?_)
  have hM16 := M16
  obtain ⟨w2, hw2, f2⟩ := p_mNext ⟨b2.1, b2.2.2.1, b2.2.2.2.2.2.1⟩ hO
  exact ⟨w2, hw2, f2⟩
theorem case_19 {v : zV} (hInv : sInv v) (p1 p2 : Int32) : ∃ w, fLc_19 p1 p2 v = some w ∧ sInv w := by
  obtain ⟨α, l, β, ρ, ρb, im, tp, pl, r0, r1, hs, hI, hM⟩ := hInv
  have ha := hs.1
  have hl := hs.2.1
  have hbk := hs.2.2.1
  have hQ : CQ v α l ρ := ⟨hI.1, hI.2.2.1⟩
  have hO : OKs α l ρ := ⟨ha, hl, hs.2.2.2.1.1, hs.2.2.2.1.2⟩
  have eC := eqC_of hQ hO
  have bD := bdC_of hO
  have q1 : v 3 1 = nI (α 0 1) := hI.1.1.1.2.1
  have q0 : v 3 0 = nI (α 0 0) := hI.1.1.1.1
  have M16 : α 0 1 ≤ 16 := ha.1.2.1
  have Q6 : α 0 0 ≤ 6 := ha.1.1
  show ∃ w, zTail (zcatch (fX9_ahead 0 p1 p2 v) 603 none (some 1)) (fX10_ahead 116 p1 p2) = some w ∧ sInv w
  by_cases h0 : inB p1 0 60
  · skip
    by_cases h1 : inB p2 0 2
    · skip
      obtain ⟨y, yl, yh, rfl⟩ := id h0
      obtain ⟨t, tl, th, rfl⟩ := id h1
      obtain ⟨w1, hw1, f1⟩ := p_ahead hQ hO yh th
      refine tl_Y hs hI hM (v1 := w1) (r := sAhead ρ (sGo α l y ρ) t) (by unfold fX9_ahead; rw [pwY (x := (nI y)) (lo := 0) (hi := 60) (a := 0) (b := 60) (by decide) (by decide) rfl rfl h0, zbind_some, pneedY, zbx_0, pwY (x := (nI t)) (lo := 0) (hi := 2) (a := 0) (b := 2) (by decide) (by decide) rfl rfl h1, zbind_some, pneedY, zbx_0, rf_0_12, hw1, zbind_some]) (f1) (fun v2 b2 => ?_)
      obtain ⟨g0, g1, g2, gQ, gD, gE⟩ := qM0 hs b2
      obtain ⟨w2, hw2, f2⟩ := p_mAhead gQ hO yh th
      refine ⟨w2, ?_, f2⟩
      unfold fX10_ahead fX10_ahead_30
      rw [zlet_eq, pinY (x := (nI y)) (lo := 0) (hi := 60) (a := 0) (b := 60) (by decide) (by decide) rfl rfl h0, zbind_some, if_neg (show ¬ (1 : Int32) = 0 by decide), pinY (x := (nI t)) (lo := 0) (hi := 2) (a := 0) (b := 2) (by decide) (by decide) rfl rfl h1, zbind_some, if_neg (show ¬ (1 : Int32) = 0 by decide), pb0 g0, zbind_some, if_pos (show (0 : Int32) = 0 from rfl), rf_116_35, rf_116_38]
      exact hw2
    · exact tl_N (z1 := 1) (y := 1) (z := 0) hs hI hM (by decide) (by unfold fX9_ahead; rw [pwY (x := p1) (lo := 0) (hi := 60) (a := 0) (b := 60) (by decide) (by decide) rfl rfl h0, zbind_some, pneedY, zbx_0, pwN (x := p2) (lo := 0) (hi := 2) (a := 0) (b := 2) (by decide) (by decide) rfl rfl h1, zbind_some, pneedN, zbx_2]) (by decide) ⟨fun h => absurd h (by decide), fun _ => rfl⟩ (fun v2 b2 => by
        obtain ⟨g0, g1, g2, gQ, gD, gE⟩ := qM0 hs b2
        refine ⟨_, ?_, rfM_up v2 1 1⟩
        unfold fX10_ahead fX10_ahead_30
        rw [zlet_eq, pinY (x := p1) (lo := 0) (hi := 60) (a := 0) (b := 60) (by decide) (by decide) rfl rfl h0, zbind_some, if_neg (show ¬ (1 : Int32) = 0 by decide), pinN (x := p2) (lo := 0) (hi := 2) (a := 0) (b := 2) (by decide) (by decide) rfl rfl h1, zbind_some, if_pos (show (0 : Int32) = 0 from rfl), pb1_11 g0, zbind_some, if_neg (show ¬ (1 : Int32) = 0 by decide)]
        rfl)
  · exact tl_N (z1 := 1) (y := 1) (z := 0) hs hI hM (by decide) (by unfold fX9_ahead; rw [pwN (x := p1) (lo := 0) (hi := 60) (a := 0) (b := 60) (by decide) (by decide) rfl rfl h0, zbind_some, pneedN, zbx_2]) (by decide) ⟨fun h => absurd h (by decide), fun _ => rfl⟩ (fun v2 b2 => by
      obtain ⟨g0, g1, g2, gQ, gD, gE⟩ := qM0 hs b2
      refine ⟨_, ?_, rfM_up v2 1 1⟩
      unfold fX10_ahead fX10_ahead_30
      rw [zlet_eq, pinN (x := p1) (lo := 0) (hi := 60) (a := 0) (b := 60) (by decide) (by decide) rfl rfl h0, zbind_some, if_pos (show (0 : Int32) = 0 from rfl), pb1_11 g0, zbind_some, if_neg (show ¬ (1 : Int32) = 0 by decide)]
      rfl)
theorem case_20 {v : zV} (hInv : sInv v) (p1 : Int32) : ∃ w, fLc_20 p1 v = some w ∧ sInv w := by
  obtain ⟨α, l, β, ρ, ρb, im, tp, pl, r0, r1, hs, hI, hM⟩ := hInv
  have ha := hs.1
  have hl := hs.2.1
  have hbk := hs.2.2.1
  have hQ : CQ v α l ρ := ⟨hI.1, hI.2.2.1⟩
  have hO : OKs α l ρ := ⟨ha, hl, hs.2.2.2.1.1, hs.2.2.2.1.2⟩
  have eC := eqC_of hQ hO
  have bD := bdC_of hO
  have q1 : v 3 1 = nI (α 0 1) := hI.1.1.1.2.1
  have q0 : v 3 0 = nI (α 0 0) := hI.1.1.1.1
  have M16 : α 0 1 ≤ 16 := ha.1.2.1
  have Q6 : α 0 0 ≤ 6 := ha.1.1
  show ∃ w, zTail (zcatch (fX9_when 0 p1 v) 603 (some 1) none) (fX10_when 116 p1) = some w ∧ sInv w
  by_cases h0 : inN p1 (α 0 1)
  · skip
    obtain ⟨m, ml, rfl⟩ := id h0
    obtain ⟨w1, hw1, f1⟩ := p_when hQ hO (nI m)
    refine tl_Y hs hI hM (v1 := w1) (r := sWhen α l (nI m) 60 ρ) (by unfold fX9_when; rw [(p_needMan (x := (nI m)) q1 M16).1 h0, zbx_0, rf_0_12, hw1, zbind_some]) (f1) (fun v2 b2 => ?_)
    obtain ⟨g0, g1, g2, gQ, gD, gE⟩ := qM0 hs b2
    obtain ⟨w2, hw2, f2⟩ := p_mWhen gQ hO (nI m)
    refine ⟨w2, ?_, f2⟩
    unfold fX10_when fX10_when_19
    rw [zlet_eq, pmanY (x := (nI m)) g1 M16 h0, zbind_some, if_neg (show ¬ (1 : Int32) = 0 by decide), pb0 g0, zbind_some, if_pos (show (0 : Int32) = 0 from rfl), rf_116_35, rf_116_38]
    exact hw2
  · exact tl_N (z1 := 0) (y := 1) (z := 0) hs hI hM (by decide) (by unfold fX9_when; rw [(p_needMan (x := p1) q1 M16).2 h0, zbx_1]) (by decide) ⟨fun _ => rfl, fun h => absurd h (by decide)⟩ (fun v2 b2 => by
      obtain ⟨g0, g1, g2, gQ, gD, gE⟩ := qM0 hs b2
      refine ⟨_, ?_, rfM_up v2 1 0⟩
      unfold fX10_when fX10_when_19
      rw [zlet_eq, pmanN (x := p1) g1 M16 h0, zbind_some, if_pos (show (0 : Int32) = 0 from rfl), pb1_10 g0, zbind_some, if_neg (show ¬ (1 : Int32) = 0 by decide)]
      rfl)
theorem case_21 {v : zV} (hInv : sInv v) : ∃ w, fLc_21 v = some w ∧ sInv w := by
  obtain ⟨α, l, β, ρ, ρb, im, tp, pl, r0, r1, hs, hI, hM⟩ := hInv
  have ha := hs.1
  have hl := hs.2.1
  have hbk := hs.2.2.1
  have hQ : CQ v α l ρ := ⟨hI.1, hI.2.2.1⟩
  have hO : OKs α l ρ := ⟨ha, hl, hs.2.2.2.1.1, hs.2.2.2.1.2⟩
  have eC := eqC_of hQ hO
  have bD := bdC_of hO
  have q1 : v 3 1 = nI (α 0 1) := hI.1.1.1.2.1
  have q0 : v 3 0 = nI (α 0 0) := hI.1.1.1.1
  have M16 : α 0 1 ≤ 16 := ha.1.2.1
  have Q6 : α 0 0 ≤ 6 := ha.1.1
  show ∃ w, zTwo (fX9_breaks 0 v) (fX10_breaks 116) = some w ∧ sInv w
  obtain ⟨w1, hw1, f1⟩ := p_when hQ hO (-1)
  refine tl_2 hs hI hM (v1 := w1) (r := sWhen α l (-1) 60 ρ) (by unfold fX9_breaks; rw [rf_0_12, hw1, zbind_some]) (f1) (fun v2 b2 => ?_)
  obtain ⟨g0, g1, g2, gQ, gD, gE⟩ := qM0 hs b2
  obtain ⟨w2, hw2, f2⟩ := p_mWhen gQ hO (-1)
  refine ⟨w2, ?_, f2⟩
  unfold fX10_breaks 
  rw [zlet_eq, rf_116_35, rf_116_38]
  exact hw2
theorem case_22 {v : zV} (hInv : sInv v) (p1 p2 p3 p4 : Int32) : ∃ w, fLc_22 p1 p2 p3 p4 v = some w ∧ sInv w := by
  obtain ⟨α, l, β, ρ, ρb, im, tp, pl, r0, r1, hs, hI, hM⟩ := hInv
  have ha := hs.1
  have hl := hs.2.1
  have hbk := hs.2.2.1
  have hQ : CQ v α l ρ := ⟨hI.1, hI.2.2.1⟩
  have hO : OKs α l ρ := ⟨ha, hl, hs.2.2.2.1.1, hs.2.2.2.1.2⟩
  have eC := eqC_of hQ hO
  have bD := bdC_of hO
  have q1 : v 3 1 = nI (α 0 1) := hI.1.1.1.2.1
  have q0 : v 3 0 = nI (α 0 0) := hI.1.1.1.1
  have M16 : α 0 1 ≤ 16 := ha.1.2.1
  have Q6 : α 0 0 ≤ 6 := ha.1.1
  show ∃ w, zTail (zcatch (fX9_praises 0 p1 p2 p3 p4 v) 603 (some 1) (some 2)) (fX10_praises 116 p1 p2 p3 p4) = some w ∧ sInv w
  by_cases h0 : inN p1 (α 0 1)
  · skip
    by_cases h1 : inB p2 1 3
    · skip
      by_cases h2 : inB p3 1 99
      · skip
        by_cases h3 : inB p4 0 1
        · skip
          obtain ⟨m, ml, rfl⟩ := id h0
          obtain ⟨y, yl, yh, rfl⟩ := id h1
          obtain ⟨b, bl, bh, rfl⟩ := id h2
          obtain ⟨t, tl, th, rfl⟩ := id h3
          obtain ⟨w1, hw1, f1⟩ := p_praises hQ hO (m := m) (Y := y) (what := t) (by omega) yl yh (by omega) (nI b)
          refine tl_Y hs hI hM (v1 := w1) (r := sPrAns (sWays α l m (nI b) y ρ 0 0 none) t) (by unfold fX9_praises; rw [(p_needMan (x := (nI m)) q1 M16).1 h0, zbx_0, pwY (x := (nI y)) (lo := 1) (hi := 3) (a := 1) (b := 3) (by decide) (by decide) rfl rfl h1, zbind_some, pneedY, zbx_0, pwY (x := (nI b)) (lo := 1) (hi := 99) (a := 1) (b := 99) (by decide) (by decide) rfl rfl h2, zbind_some, pneedY, zbx_0, pwY (x := (nI t)) (lo := 0) (hi := 1) (a := 0) (b := 1) (by decide) (by decide) rfl rfl h3, zbind_some, pneedY, zbx_0, rf_0_12, hw1, zbind_some]) (f1) (fun v2 b2 => ?_)
          obtain ⟨g0, g1, g2, gQ, gD, gE⟩ := qM0 hs b2
          obtain ⟨w2, hw2, f2⟩ := p_mPraises gQ hO (m := m) (Y := y) (what := t) (by omega) yh (by omega) (nI b)
          refine ⟨w2, ?_, f2⟩
          unfold fX10_praises fX10_praises_19 fX10_praises_62
          rw [zlet_eq, pmanY (x := (nI m)) g1 M16 h0, zbind_some, if_neg (show ¬ (1 : Int32) = 0 by decide), pb0 g0, zbind_some, if_pos (show (0 : Int32) = 0 from rfl), pinY (x := (nI y)) (lo := 1) (hi := 3) (a := 1) (b := 3) (by decide) (by decide) rfl rfl h1, zbind_some, if_neg (show ¬ (1 : Int32) = 0 by decide), pinY (x := (nI b)) (lo := 1) (hi := 99) (a := 1) (b := 99) (by decide) (by decide) rfl rfl h2, zbind_some, if_neg (show ¬ (1 : Int32) = 0 by decide), pinY (x := (nI t)) (lo := 0) (hi := 1) (a := 0) (b := 1) (by decide) (by decide) rfl rfl h3, zbind_some, if_neg (show ¬ (1 : Int32) = 0 by decide), pb0 g0, zbind_some, if_pos (show (0 : Int32) = 0 from rfl)]
          exact hw2
        · exact tl_N (z1 := 1) (y := 2) (z := 0) hs hI hM (by decide) (by unfold fX9_praises; rw [(p_needMan (x := p1) q1 M16).1 h0, zbx_0, pwY (x := p2) (lo := 1) (hi := 3) (a := 1) (b := 3) (by decide) (by decide) rfl rfl h1, zbind_some, pneedY, zbx_0, pwY (x := p3) (lo := 1) (hi := 99) (a := 1) (b := 99) (by decide) (by decide) rfl rfl h2, zbind_some, pneedY, zbx_0, pwN (x := p4) (lo := 0) (hi := 1) (a := 0) (b := 1) (by decide) (by decide) rfl rfl h3, zbind_some, pneedN, zbx_2]) (by decide) ⟨fun h => absurd h (by decide), fun _ => rfl⟩ (fun v2 b2 => by
            obtain ⟨g0, g1, g2, gQ, gD, gE⟩ := qM0 hs b2
            refine ⟨_, ?_, rfM_up v2 2 1⟩
            unfold fX10_praises fX10_praises_19 fX10_praises_62
            rw [zlet_eq, pmanY (x := p1) g1 M16 h0, zbind_some, if_neg (show ¬ (1 : Int32) = 0 by decide), pb0 g0, zbind_some, if_pos (show (0 : Int32) = 0 from rfl), pinY (x := p2) (lo := 1) (hi := 3) (a := 1) (b := 3) (by decide) (by decide) rfl rfl h1, zbind_some, if_neg (show ¬ (1 : Int32) = 0 by decide), pinY (x := p3) (lo := 1) (hi := 99) (a := 1) (b := 99) (by decide) (by decide) rfl rfl h2, zbind_some, if_neg (show ¬ (1 : Int32) = 0 by decide), pinN (x := p4) (lo := 0) (hi := 1) (a := 0) (b := 1) (by decide) (by decide) rfl rfl h3, zbind_some, if_pos (show (0 : Int32) = 0 from rfl), pb1_21 g0, zbind_some, if_neg (show ¬ (1 : Int32) = 0 by decide)]
            rfl)
      · exact tl_N (z1 := 1) (y := 2) (z := 0) hs hI hM (by decide) (by unfold fX9_praises; rw [(p_needMan (x := p1) q1 M16).1 h0, zbx_0, pwY (x := p2) (lo := 1) (hi := 3) (a := 1) (b := 3) (by decide) (by decide) rfl rfl h1, zbind_some, pneedY, zbx_0, pwN (x := p3) (lo := 1) (hi := 99) (a := 1) (b := 99) (by decide) (by decide) rfl rfl h2, zbind_some, pneedN, zbx_2]) (by decide) ⟨fun h => absurd h (by decide), fun _ => rfl⟩ (fun v2 b2 => by
          obtain ⟨g0, g1, g2, gQ, gD, gE⟩ := qM0 hs b2
          refine ⟨_, ?_, rfM_up v2 2 1⟩
          unfold fX10_praises fX10_praises_19 fX10_praises_62
          rw [zlet_eq, pmanY (x := p1) g1 M16 h0, zbind_some, if_neg (show ¬ (1 : Int32) = 0 by decide), pb0 g0, zbind_some, if_pos (show (0 : Int32) = 0 from rfl), pinY (x := p2) (lo := 1) (hi := 3) (a := 1) (b := 3) (by decide) (by decide) rfl rfl h1, zbind_some, if_neg (show ¬ (1 : Int32) = 0 by decide), pinN (x := p3) (lo := 1) (hi := 99) (a := 1) (b := 99) (by decide) (by decide) rfl rfl h2, zbind_some, if_pos (show (0 : Int32) = 0 from rfl), pb1_21 g0, zbind_some, if_neg (show ¬ (1 : Int32) = 0 by decide)]
          rfl)
    · exact tl_N (z1 := 1) (y := 2) (z := 0) hs hI hM (by decide) (by unfold fX9_praises; rw [(p_needMan (x := p1) q1 M16).1 h0, zbx_0, pwN (x := p2) (lo := 1) (hi := 3) (a := 1) (b := 3) (by decide) (by decide) rfl rfl h1, zbind_some, pneedN, zbx_2]) (by decide) ⟨fun h => absurd h (by decide), fun _ => rfl⟩ (fun v2 b2 => by
        obtain ⟨g0, g1, g2, gQ, gD, gE⟩ := qM0 hs b2
        refine ⟨_, ?_, rfM_up v2 2 1⟩
        unfold fX10_praises fX10_praises_19 fX10_praises_62
        rw [zlet_eq, pmanY (x := p1) g1 M16 h0, zbind_some, if_neg (show ¬ (1 : Int32) = 0 by decide), pb0 g0, zbind_some, if_pos (show (0 : Int32) = 0 from rfl), pinN (x := p2) (lo := 1) (hi := 3) (a := 1) (b := 3) (by decide) (by decide) rfl rfl h1, zbind_some, if_pos (show (0 : Int32) = 0 from rfl), pb1_21 g0, zbind_some, if_neg (show ¬ (1 : Int32) = 0 by decide)]
        rfl)
  · exact tl_N (z1 := 0) (y := 1) (z := 0) hs hI hM (by decide) (by unfold fX9_praises; rw [(p_needMan (x := p1) q1 M16).2 h0, zbx_1]) (by decide) ⟨fun _ => rfl, fun h => absurd h (by decide)⟩ (fun v2 b2 => by
      obtain ⟨g0, g1, g2, gQ, gD, gE⟩ := qM0 hs b2
      refine ⟨_, ?_, rfM_up v2 1 0⟩
      unfold fX10_praises fX10_praises_19 fX10_praises_62
      rw [zlet_eq, pmanN (x := p1) g1 M16 h0, zbind_some, if_pos (show (0 : Int32) = 0 from rfl), pb1_10 g0, zbind_some, if_neg (show ¬ (1 : Int32) = 0 by decide)]
      rfl)
theorem case_23 {v : zV} (hInv : sInv v) (p1 p2 : Int32) : ∃ w, fLc_23 p1 p2 v = some w ∧ sInv w := by
  obtain ⟨α, l, β, ρ, ρb, im, tp, pl, r0, r1, hs, hI, hM⟩ := hInv
  have ha := hs.1
  have hl := hs.2.1
  have hbk := hs.2.2.1
  have hQ : CQ v α l ρ := ⟨hI.1, hI.2.2.1⟩
  have hO : OKs α l ρ := ⟨ha, hl, hs.2.2.2.1.1, hs.2.2.2.1.2⟩
  have eC := eqC_of hQ hO
  have bD := bdC_of hO
  have q1 : v 3 1 = nI (α 0 1) := hI.1.1.1.2.1
  have q0 : v 3 0 = nI (α 0 0) := hI.1.1.1.1
  have M16 : α 0 1 ≤ 16 := ha.1.2.1
  have Q6 : α 0 0 ≤ 6 := ha.1.1
  show ∃ w, zTail (zcatch (fX9_beliefs 0 p1 p2 v) 603 (some 1) (some 2)) (fX10_beliefs 116 p1 p2) = some w ∧ sInv w
  by_cases h0 : inN p1 (α 0 1)
  · skip
    by_cases h1 : inB p2 0 1
    · skip
      obtain ⟨m, ml, rfl⟩ := id h0
      obtain ⟨t, tl, th, rfl⟩ := id h1
      obtain ⟨w1, hw1, -, f1, u6, u7, -⟩ := p_tries ha hl hbk ml hI.1 hI.2.1
      refine tl_Y hs hI hM (v1 := w1) (r := if t = 0 then nI (sTry α l β m).1 else (sTry α l β m).2.1) (by unfold fX9_beliefs; rw [(p_needMan (x := (nI m)) q1 M16).1 h0, zbx_0, pwY (x := (nI t)) (lo := 0) (hi := 1) (a := 0) (b := 1) (by decide) (by decide) rfl rfl h1, zbind_some, pneedY, zbx_0, rf_0_13, hw1, zbindv_some, u6, u7]; exact pT2 th) (f1) (fun v2 b2 => ?_)
      obtain ⟨g0, g1, g2, gQ, gD, gE⟩ := qM0 hs b2
      obtain ⟨w2, hw2, f2, -, u57, u58⟩ := p_mTry ha hl hbk ml gD
      refine ⟨w2, ?_, f2⟩
      unfold fX10_beliefs fX10_beliefs_19 fX10_beliefs_42
      rw [zlet_eq, pmanY (x := (nI m)) g1 M16 h0, zbind_some, if_neg (show ¬ (1 : Int32) = 0 by decide), pb0 g0, zbind_some, if_pos (show (0 : Int32) = 0 from rfl), pinY (x := (nI t)) (lo := 0) (hi := 1) (a := 0) (b := 1) (by decide) (by decide) rfl rfl h1, zbind_some, if_neg (show ¬ (1 : Int32) = 0 by decide), pb0 g0, zbind_some, if_pos (show (0 : Int32) = 0 from rfl), hw2, zbindv_some, u57, u58]
      exact pT3 th
    · exact tl_N (z1 := 1) (y := 2) (z := 0) hs hI hM (by decide) (by unfold fX9_beliefs; rw [(p_needMan (x := p1) q1 M16).1 h0, zbx_0, pwN (x := p2) (lo := 0) (hi := 1) (a := 0) (b := 1) (by decide) (by decide) rfl rfl h1, zbind_some, pneedN, zbx_2]) (by decide) ⟨fun h => absurd h (by decide), fun _ => rfl⟩ (fun v2 b2 => by
        obtain ⟨g0, g1, g2, gQ, gD, gE⟩ := qM0 hs b2
        refine ⟨_, ?_, rfM_up v2 2 1⟩
        unfold fX10_beliefs fX10_beliefs_19 fX10_beliefs_42
        rw [zlet_eq, pmanY (x := p1) g1 M16 h0, zbind_some, if_neg (show ¬ (1 : Int32) = 0 by decide), pb0 g0, zbind_some, if_pos (show (0 : Int32) = 0 from rfl), pinN (x := p2) (lo := 0) (hi := 1) (a := 0) (b := 1) (by decide) (by decide) rfl rfl h1, zbind_some, if_pos (show (0 : Int32) = 0 from rfl), pb1_21 g0, zbind_some, if_neg (show ¬ (1 : Int32) = 0 by decide)]
        rfl)
  · exact tl_N (z1 := 0) (y := 1) (z := 0) hs hI hM (by decide) (by unfold fX9_beliefs; rw [(p_needMan (x := p1) q1 M16).2 h0, zbx_1]) (by decide) ⟨fun _ => rfl, fun h => absurd h (by decide)⟩ (fun v2 b2 => by
      obtain ⟨g0, g1, g2, gQ, gD, gE⟩ := qM0 hs b2
      refine ⟨_, ?_, rfM_up v2 1 0⟩
      unfold fX10_beliefs fX10_beliefs_19 fX10_beliefs_42
      rw [zlet_eq, pmanN (x := p1) g1 M16 h0, zbind_some, if_pos (show (0 : Int32) = 0 from rfl), pb1_10 g0, zbind_some, if_neg (show ¬ (1 : Int32) = 0 by decide)]
      rfl)
theorem case_25 {v : zV} (hInv : sInv v) (p1 : Int32) : ∃ w, fLc_25 p1 v = some w ∧ sInv w := by
  obtain ⟨α, l, β, ρ, ρb, im, tp, pl, r0, r1, hs, hI, hM⟩ := hInv
  have ha := hs.1
  have hl := hs.2.1
  have hbk := hs.2.2.1
  have hQ : CQ v α l ρ := ⟨hI.1, hI.2.2.1⟩
  have hO : OKs α l ρ := ⟨ha, hl, hs.2.2.2.1.1, hs.2.2.2.1.2⟩
  have eC := eqC_of hQ hO
  have bD := bdC_of hO
  have q1 : v 3 1 = nI (α 0 1) := hI.1.1.1.2.1
  have q0 : v 3 0 = nI (α 0 0) := hI.1.1.1.1
  have M16 : α 0 1 ≤ 16 := ha.1.2.1
  have Q6 : α 0 0 ≤ 6 := ha.1.1
  show ∃ w, zTail (zcatch (fX9_dead 0 p1 v) 603 none (some 1)) (fX10_dead 116 p1) = some w ∧ sInv w
  by_cases h0 : inB p1 1 60
  · skip
    obtain ⟨y, yl, yh, rfl⟩ := id h0
    obtain ⟨w1, hw1, f1⟩ := p_dead ha hl hbk hI.1 hI.2.1 (y := y) (by omega)
    refine tl_Y hs hI hM (v1 := w1) (r := sDeadB α l β y) (by unfold fX9_dead; rw [pwY (x := (nI y)) (lo := 1) (hi := 60) (a := 1) (b := 60) (by decide) (by decide) rfl rfl h0, zbind_some, pneedY, zbx_0, rf_0_13, hw1, zbind_some]) (f1) (fun v2 b2 => ?_)
    obtain ⟨g0, g1, g2, gQ, gD, gE⟩ := qM0 hs b2
    obtain ⟨w2, hw2, f2⟩ := p_mDead ha hl hbk (y := y) (by omega) gD
    refine ⟨w2, ?_, f2⟩
    unfold fX10_dead fX10_dead_21
    rw [zlet_eq, pinY (x := (nI y)) (lo := 1) (hi := 60) (a := 1) (b := 60) (by decide) (by decide) rfl rfl h0, zbind_some, if_neg (show ¬ (1 : Int32) = 0 by decide), pb0 g0, zbind_some, if_pos (show (0 : Int32) = 0 from rfl)]
    exact hw2
  · exact tl_N (z1 := 1) (y := 1) (z := 0) hs hI hM (by decide) (by unfold fX9_dead; rw [pwN (x := p1) (lo := 1) (hi := 60) (a := 1) (b := 60) (by decide) (by decide) rfl rfl h0, zbind_some, pneedN, zbx_2]) (by decide) ⟨fun h => absurd h (by decide), fun _ => rfl⟩ (fun v2 b2 => by
      obtain ⟨g0, g1, g2, gQ, gD, gE⟩ := qM0 hs b2
      refine ⟨_, ?_, rfM_up v2 1 1⟩
      unfold fX10_dead fX10_dead_21
      rw [zlet_eq, pinN (x := p1) (lo := 1) (hi := 60) (a := 1) (b := 60) (by decide) (by decide) rfl rfl h0, zbind_some, if_pos (show (0 : Int32) = 0 from rfl), pb1_11 g0, zbind_some, if_neg (show ¬ (1 : Int32) = 0 by decide)]
      rfl)
theorem case_26 {v : zV} (hInv : sInv v) : ∃ w, fLc_26 v = some w ∧ sInv w := by
  obtain ⟨α, l, β, ρ, ρb, im, tp, pl, r0, r1, hs, hI, hM⟩ := hInv
  have ha := hs.1
  have hl := hs.2.1
  have hbk := hs.2.2.1
  have hQ : CQ v α l ρ := ⟨hI.1, hI.2.2.1⟩
  have hO : OKs α l ρ := ⟨ha, hl, hs.2.2.2.1.1, hs.2.2.2.1.2⟩
  have eC := eqC_of hQ hO
  have bD := bdC_of hO
  have q1 : v 3 1 = nI (α 0 1) := hI.1.1.1.2.1
  have q0 : v 3 0 = nI (α 0 0) := hI.1.1.1.1
  have M16 : α 0 1 ≤ 16 := ha.1.2.1
  have Q6 : α 0 0 ≤ 6 := ha.1.1
  show ∃ w, zTwo (fX9_right 0 v) (fX10_right 116) = some w ∧ sInv w
  obtain ⟨w1, hw1, f1⟩ := p_right ha hl hbk hI.1 hI.2.1
  refine tl_2 hs hI hM (v1 := w1) (r := nI (sRight α l β none)) (by unfold fX9_right; rw [rf_0_13, hw1, zbind_some]) (f1) (fun v2 b2 => ?_)
  have hM16 := M16
  obtain ⟨w2, hw2, f2⟩ := p_mRightQ ha hl hbk (qMD b2)
  exact ⟨w2, hw2, f2⟩
theorem case_27 {v : zV} (hInv : sInv v) (p1 : Int32) : ∃ w, fLc_27 p1 v = some w ∧ sInv w := by
  obtain ⟨α, l, β, ρ, ρb, im, tp, pl, r0, r1, hs, hI, hM⟩ := hInv
  have ha := hs.1
  have hl := hs.2.1
  have hbk := hs.2.2.1
  have hQ : CQ v α l ρ := ⟨hI.1, hI.2.2.1⟩
  have hO : OKs α l ρ := ⟨ha, hl, hs.2.2.2.1.1, hs.2.2.2.1.2⟩
  have eC := eqC_of hQ hO
  have bD := bdC_of hO
  have q1 : v 3 1 = nI (α 0 1) := hI.1.1.1.2.1
  have q0 : v 3 0 = nI (α 0 0) := hI.1.1.1.1
  have M16 : α 0 1 ≤ 16 := ha.1.2.1
  have Q6 : α 0 0 ≤ 6 := ha.1.1
  show ∃ w, zTail (zcatch (fX9_enemy 0 p1 v) 603 (some 1) none) (fX10_enemy 116 p1) = some w ∧ sInv w
  by_cases h0 : inN p1 (α 0 1)
  · skip
    obtain ⟨m, ml, rfl⟩ := id h0
    refine tl_Y hs hI hM (v1 := v) (r := oI (sEn α ρ m)) (by unfold fX9_enemy; rw [(p_needMan (x := (nI m)) q1 M16).1 h0, zbx_0, rf_0_14, p_enemy eC bD ml, zbind_some]) (frC_rf v) (fun v2 b2 => ?_)
    obtain ⟨g0, g1, g2, gQ, gD, gE⟩ := qM0 hs b2
    refine ⟨_, ?_, frM_rf _⟩
    unfold fX10_enemy fX10_enemy_19
    rw [zlet_eq, pmanY (x := (nI m)) g1 M16 h0, zbind_some, if_neg (show ¬ (1 : Int32) = 0 by decide), pb0 g0, zbind_some, if_pos (show (0 : Int32) = 0 from rfl), p_mEnemy gE bD ml, zbind_some]
  · exact tl_N (z1 := 0) (y := 1) (z := 0) hs hI hM (by decide) (by unfold fX9_enemy; rw [(p_needMan (x := p1) q1 M16).2 h0, zbx_1]) (by decide) ⟨fun _ => rfl, fun h => absurd h (by decide)⟩ (fun v2 b2 => by
      obtain ⟨g0, g1, g2, gQ, gD, gE⟩ := qM0 hs b2
      refine ⟨_, ?_, rfM_up v2 1 0⟩
      unfold fX10_enemy fX10_enemy_19
      rw [zlet_eq, pmanN (x := p1) g1 M16 h0, zbind_some, if_pos (show (0 : Int32) = 0 from rfl), pb1_10 g0, zbind_some, if_neg (show ¬ (1 : Int32) = 0 by decide)]
      rfl)
theorem case_28 {v : zV} (hInv : sInv v) (p1 p2 : Int32) : ∃ w, fLc_28 p1 p2 v = some w ∧ sInv w := by
  obtain ⟨α, l, β, ρ, ρb, im, tp, pl, r0, r1, hs, hI, hM⟩ := hInv
  have ha := hs.1
  have hl := hs.2.1
  have hbk := hs.2.2.1
  have hQ : CQ v α l ρ := ⟨hI.1, hI.2.2.1⟩
  have hO : OKs α l ρ := ⟨ha, hl, hs.2.2.2.1.1, hs.2.2.2.1.2⟩
  have eC := eqC_of hQ hO
  have bD := bdC_of hO
  have q1 : v 3 1 = nI (α 0 1) := hI.1.1.1.2.1
  have q0 : v 3 0 = nI (α 0 0) := hI.1.1.1.1
  have M16 : α 0 1 ≤ 16 := ha.1.2.1
  have Q6 : α 0 0 ≤ 6 := ha.1.1
  show ∃ w, zTail (zcatch (fX9_ring 0 p1 p2 v) 603 (some 1) (some 2)) (fX10_ring 116 p1 p2) = some w ∧ sInv w
  by_cases h0 : inN p1 (α 0 1)
  · skip
    by_cases h1 : inB p2 0 1
    · skip
      obtain ⟨m, ml, rfl⟩ := id h0
      obtain ⟨t, tl, th, rfl⟩ := id h1
      refine tl_Y hs hI hM (v1 := v) (r := sRing α ρ m t) (by unfold fX9_ring; rw [(p_needMan (x := (nI m)) q1 M16).1 h0, zbx_0, pwY (x := (nI t)) (lo := 0) (hi := 1) (a := 0) (b := 1) (by decide) (by decide) rfl rfl h1, zbind_some, pneedY, zbx_0, rf_0_14, p_ring eC bD ml (r := t) (by omega), zbind_some]) (frC_rf v) (fun v2 b2 => ?_)
      obtain ⟨g0, g1, g2, gQ, gD, gE⟩ := qM0 hs b2
      refine ⟨_, ?_, frM_rf _⟩
      unfold fX10_ring fX10_ring_19 fX10_ring_42
      rw [zlet_eq, pmanY (x := (nI m)) g1 M16 h0, zbind_some, if_neg (show ¬ (1 : Int32) = 0 by decide), pb0 g0, zbind_some, if_pos (show (0 : Int32) = 0 from rfl), pinY (x := (nI t)) (lo := 0) (hi := 1) (a := 0) (b := 1) (by decide) (by decide) rfl rfl h1, zbind_some, if_neg (show ¬ (1 : Int32) = 0 by decide), pb0 g0, zbind_some, if_pos (show (0 : Int32) = 0 from rfl)]
      exact p_mRing gE bD ml (r := t) (by omega)
    · exact tl_N (z1 := 1) (y := 2) (z := 0) hs hI hM (by decide) (by unfold fX9_ring; rw [(p_needMan (x := p1) q1 M16).1 h0, zbx_0, pwN (x := p2) (lo := 0) (hi := 1) (a := 0) (b := 1) (by decide) (by decide) rfl rfl h1, zbind_some, pneedN, zbx_2]) (by decide) ⟨fun h => absurd h (by decide), fun _ => rfl⟩ (fun v2 b2 => by
        obtain ⟨g0, g1, g2, gQ, gD, gE⟩ := qM0 hs b2
        refine ⟨_, ?_, rfM_up v2 2 1⟩
        unfold fX10_ring fX10_ring_19 fX10_ring_42
        rw [zlet_eq, pmanY (x := p1) g1 M16 h0, zbind_some, if_neg (show ¬ (1 : Int32) = 0 by decide), pb0 g0, zbind_some, if_pos (show (0 : Int32) = 0 from rfl), pinN (x := p2) (lo := 0) (hi := 1) (a := 0) (b := 1) (by decide) (by decide) rfl rfl h1, zbind_some, if_pos (show (0 : Int32) = 0 from rfl), pb1_21 g0, zbind_some, if_neg (show ¬ (1 : Int32) = 0 by decide)]
        rfl)
  · exact tl_N (z1 := 0) (y := 1) (z := 0) hs hI hM (by decide) (by unfold fX9_ring; rw [(p_needMan (x := p1) q1 M16).2 h0, zbx_1]) (by decide) ⟨fun _ => rfl, fun h => absurd h (by decide)⟩ (fun v2 b2 => by
      obtain ⟨g0, g1, g2, gQ, gD, gE⟩ := qM0 hs b2
      refine ⟨_, ?_, rfM_up v2 1 0⟩
      unfold fX10_ring fX10_ring_19 fX10_ring_42
      rw [zlet_eq, pmanN (x := p1) g1 M16 h0, zbind_some, if_pos (show (0 : Int32) = 0 from rfl), pb1_10 g0, zbind_some, if_neg (show ¬ (1 : Int32) = 0 by decide)]
      rfl)
theorem case_29 {v : zV} (hInv : sInv v) (p1 p2 p3 : Int32) : ∃ w, fLc_29 p1 p2 p3 v = some w ∧ sInv w := by
  obtain ⟨α, l, β, ρ, ρb, im, tp, pl, r0, r1, hs, hI, hM⟩ := hInv
  have ha := hs.1
  have hl := hs.2.1
  have hbk := hs.2.2.1
  have hQ : CQ v α l ρ := ⟨hI.1, hI.2.2.1⟩
  have hO : OKs α l ρ := ⟨ha, hl, hs.2.2.2.1.1, hs.2.2.2.1.2⟩
  have eC := eqC_of hQ hO
  have bD := bdC_of hO
  have q1 : v 3 1 = nI (α 0 1) := hI.1.1.1.2.1
  have q0 : v 3 0 = nI (α 0 0) := hI.1.1.1.1
  have M16 : α 0 1 ≤ 16 := ha.1.2.1
  have Q6 : α 0 0 ≤ 6 := ha.1.1
  show ∃ w, zTail (zcatch (fX9_vote 0 p1 p2 p3 v) 603 (some 1) (some 2)) (fX10_vote 116 p1 p2 p3) = some w ∧ sInv w
  by_cases h0 : inN p1 (α 0 0)
  · skip
    by_cases h1 : inB p2 1 12
    · skip
      by_cases h2 : inB p3 0 11
      · skip
        obtain ⟨q, ql, rfl⟩ := id h0
        obtain ⟨y, yl, yh, rfl⟩ := id h1
        obtain ⟨t, tl, th, rfl⟩ := id h2
        obtain ⟨w1, hw1, -, f1⟩ := p_vote hQ hO ql ⟨yl, yh⟩ th
        refine tl_Y hs hI hM (v1 := w1) (r := oI (sVote α ρ q y t (sCh ρ).length)) (by unfold fX9_vote; rw [(p_needQ (x := (nI q)) q0 Q6).1 h0, zbx_0, pwY (x := (nI y)) (lo := 1) (hi := 12) (a := 1) (b := 12) (by decide) (by decide) rfl rfl h1, zbind_some, pneedY, zbx_0, pwY (x := (nI t)) (lo := 0) (hi := 11) (a := 0) (b := 11) (by decide) (by decide) rfl rfl h2, zbind_some, pneedY, zbx_0, rf_0_14, hw1, zbind_some]) (fun a _ _ g => f1 a (by omega)) (fun v2 b2 => ?_)
        obtain ⟨g0, g1, g2, gQ, gD, gE⟩ := qM0 hs b2
        obtain ⟨w2, hw2, -, f2⟩ := p_mVote gQ hO ql ⟨yl, yh⟩ th (Nat.le_refl _)
        refine ⟨w2, ?_, frM_c (r := 602) (by decide) (by decide) f2⟩
        unfold fX10_vote fX10_vote_19 fX10_vote_53
        rw [zlet_eq, pquY (x := (nI q)) g2 Q6 h0, zbind_some, if_neg (show ¬ (1 : Int32) = 0 by decide), pb0 g0, zbind_some, if_pos (show (0 : Int32) = 0 from rfl), pinY (x := (nI y)) (lo := 1) (hi := 12) (a := 1) (b := 12) (by decide) (by decide) rfl rfl h1, zbind_some, if_neg (show ¬ (1 : Int32) = 0 by decide), pinY (x := (nI t)) (lo := 0) (hi := 11) (a := 0) (b := 11) (by decide) (by decide) rfl rfl h2, zbind_some, if_neg (show ¬ (1 : Int32) = 0 by decide), pb0 g0, zbind_some, if_pos (show (0 : Int32) = 0 from rfl), rf_116_35, l567, zx61, c61, p61 gQ, hw2, zbind_some]
      · exact tl_N (z1 := 1) (y := 2) (z := 0) hs hI hM (by decide) (by unfold fX9_vote; rw [(p_needQ (x := p1) q0 Q6).1 h0, zbx_0, pwY (x := p2) (lo := 1) (hi := 12) (a := 1) (b := 12) (by decide) (by decide) rfl rfl h1, zbind_some, pneedY, zbx_0, pwN (x := p3) (lo := 0) (hi := 11) (a := 0) (b := 11) (by decide) (by decide) rfl rfl h2, zbind_some, pneedN, zbx_2]) (by decide) ⟨fun h => absurd h (by decide), fun _ => rfl⟩ (fun v2 b2 => by
          obtain ⟨g0, g1, g2, gQ, gD, gE⟩ := qM0 hs b2
          refine ⟨_, ?_, rfM_up v2 2 1⟩
          unfold fX10_vote fX10_vote_19 fX10_vote_53
          rw [zlet_eq, pquY (x := p1) g2 Q6 h0, zbind_some, if_neg (show ¬ (1 : Int32) = 0 by decide), pb0 g0, zbind_some, if_pos (show (0 : Int32) = 0 from rfl), pinY (x := p2) (lo := 1) (hi := 12) (a := 1) (b := 12) (by decide) (by decide) rfl rfl h1, zbind_some, if_neg (show ¬ (1 : Int32) = 0 by decide), pinN (x := p3) (lo := 0) (hi := 11) (a := 0) (b := 11) (by decide) (by decide) rfl rfl h2, zbind_some, if_pos (show (0 : Int32) = 0 from rfl), pb1_21 g0, zbind_some, if_neg (show ¬ (1 : Int32) = 0 by decide)]
          rfl)
    · exact tl_N (z1 := 1) (y := 2) (z := 0) hs hI hM (by decide) (by unfold fX9_vote; rw [(p_needQ (x := p1) q0 Q6).1 h0, zbx_0, pwN (x := p2) (lo := 1) (hi := 12) (a := 1) (b := 12) (by decide) (by decide) rfl rfl h1, zbind_some, pneedN, zbx_2]) (by decide) ⟨fun h => absurd h (by decide), fun _ => rfl⟩ (fun v2 b2 => by
        obtain ⟨g0, g1, g2, gQ, gD, gE⟩ := qM0 hs b2
        refine ⟨_, ?_, rfM_up v2 2 1⟩
        unfold fX10_vote fX10_vote_19 fX10_vote_53
        rw [zlet_eq, pquY (x := p1) g2 Q6 h0, zbind_some, if_neg (show ¬ (1 : Int32) = 0 by decide), pb0 g0, zbind_some, if_pos (show (0 : Int32) = 0 from rfl), pinN (x := p2) (lo := 1) (hi := 12) (a := 1) (b := 12) (by decide) (by decide) rfl rfl h1, zbind_some, if_pos (show (0 : Int32) = 0 from rfl), pb1_21 g0, zbind_some, if_neg (show ¬ (1 : Int32) = 0 by decide)]
        rfl)
  · exact tl_N (z1 := 0) (y := 1) (z := 0) hs hI hM (by decide) (by unfold fX9_vote; rw [(p_needQ (x := p1) q0 Q6).2 h0, zbx_1]) (by decide) ⟨fun _ => rfl, fun h => absurd h (by decide)⟩ (fun v2 b2 => by
      obtain ⟨g0, g1, g2, gQ, gD, gE⟩ := qM0 hs b2
      refine ⟨_, ?_, rfM_up v2 1 0⟩
      unfold fX10_vote fX10_vote_19 fX10_vote_53
      rw [zlet_eq, pquN (x := p1) g2 Q6 h0, zbind_some, if_pos (show (0 : Int32) = 0 from rfl), pb1_10 g0, zbind_some, if_neg (show ¬ (1 : Int32) = 0 by decide)]
      rfl)
theorem case_30 {v : zV} (hInv : sInv v) (p1 : Int32) : ∃ w, fLc_30 p1 v = some w ∧ sInv w := by
  obtain ⟨α, l, β, ρ, ρb, im, tp, pl, r0, r1, hs, hI, hM⟩ := hInv
  have ha := hs.1
  have hl := hs.2.1
  have hbk := hs.2.2.1
  have hQ : CQ v α l ρ := ⟨hI.1, hI.2.2.1⟩
  have hO : OKs α l ρ := ⟨ha, hl, hs.2.2.2.1.1, hs.2.2.2.1.2⟩
  have eC := eqC_of hQ hO
  have bD := bdC_of hO
  have q1 : v 3 1 = nI (α 0 1) := hI.1.1.1.2.1
  have q0 : v 3 0 = nI (α 0 0) := hI.1.1.1.1
  have M16 : α 0 1 ≤ 16 := ha.1.2.1
  have Q6 : α 0 0 ≤ 6 := ha.1.1
  show ∃ w, zTail (zcatch (fX9_skip 0 p1 v) 603 (some 1) none) (fX10_skip 116 p1) = some w ∧ sInv w
  by_cases h0 : inN p1 (α 0 0)
  · skip
    obtain ⟨q, ql, rfl⟩ := id h0
    refine tl_Y hs hI hM (v1 := v) (r := nI (sSkip α ρ q)) (by unfold fX9_skip; rw [(p_needQ (x := (nI q)) q0 Q6).1 h0, zbx_0, rf_0_14, p_skip eC bD ql, zbind_some]) (frC_rf v) (fun v2 b2 => ?_)
    obtain ⟨g0, g1, g2, gQ, gD, gE⟩ := qM0 hs b2
    refine ⟨_, ?_, frM_rf _⟩
    unfold fX10_skip 
    rw [zlet_eq, pquY (x := (nI q)) g2 Q6 h0, zbind_some, if_neg (show ¬ (1 : Int32) = 0 by decide), pb0 g0, zbind_some, if_pos (show (0 : Int32) = 0 from rfl)]
    exact p_mSkip gE bD ql
  · exact tl_N (z1 := 0) (y := 1) (z := 0) hs hI hM (by decide) (by unfold fX9_skip; rw [(p_needQ (x := p1) q0 Q6).2 h0, zbx_1]) (by decide) ⟨fun _ => rfl, fun h => absurd h (by decide)⟩ (fun v2 b2 => by
      obtain ⟨g0, g1, g2, gQ, gD, gE⟩ := qM0 hs b2
      refine ⟨_, ?_, rfM_up v2 1 0⟩
      unfold fX10_skip 
      rw [zlet_eq, pquN (x := p1) g2 Q6 h0, zbind_some, if_pos (show (0 : Int32) = 0 from rfl), pb1_10 g0, zbind_some, if_neg (show ¬ (1 : Int32) = 0 by decide)]
      rfl)
end
