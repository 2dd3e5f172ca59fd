/-! THE QUESTIONS, call by call: told, patrons -/
section
def sTold (α : sA) (β : sB) (ρ : sR) (t : Nat) : Int32 := if t = 0 then nI (α 0 0) else if t = 1 then nI (α 0 1) else if t = 2 then nI (α 0 2) else if t = 3 then nI (sSc ρ 0) else if t = 4 then nI (sCh ρ).length else if t = 5 then nI (sWaits α ρ) else if t = 6 then nI (α 0 4) else if t = 7 then nI (α 0 5) else nI β.length
theorem pTold {v : zV} {α : sA} {l : sL} {β : sB} {ρ : sR} (h : CQ v α l ρ) (ho : OKs α l ρ) (hB : pCB v β) {t : Nat} (ht : t ≤ 8) : (if nI t = (0 : Int32) then
      some ((0 : Nat), v (zrf 0 1) 0, v)
    else
      if nI t = (1 : Int32) then
        some (0, v (zrf 0 1) 1, v)
      else
        if nI t = (2 : Int32) then
          some (0, v (zrf 0 1) 2, v)
        else
          if nI t = (3 : Int32) then
            some (0, v (zrf 0 7) 0, v)
          else
            if nI t = (4 : Int32) then
              some (0, v (zrf 0 7) 1, v)
            else
              if nI t = (5 : Int32) then
                zbind (fX3_waitingMen (zrf 0 14) v) fun r_6 v_5 =>
                some (0, r_6, v_5)
              else
                if nI t = (6 : Int32) then
                  some (0, v (zrf 0 1) 4, v)
                else
                  if nI t = (7 : Int32) then
                    some (0, v (zrf 0 1) 5, v)
                  else
                    some (0, v (zrf 0 5) 0, v)) = some (0, sTold α β ρ t, v) := by
  have eC := eqC_of h ho
  have bD := bdC_of ho
  simp only [nI_is0 (show t < 100 by omega), nI_is1 (show t < 100 by omega), nI_is2 (show t < 100 by omega), nI_is3 (show t < 100 by omega), nI_is4 (show t < 100 by omega), nI_is5 (show t < 100 by omega), nI_is6 (show t < 100 by omega), nI_is7 (show t < 100 by omega), rf_0_1, rf_0_7, rf_0_14, rf_0_5, p_waiting eC bD, zbind_some, h.1.1.1.1, h.1.1.1.2.1, h.1.1.1.2.2.1, h.1.1.1.2.2.2.2.1, h.1.1.1.2.2.2.2.2, h.2.1.1, h.2.1.2.1, hB.1]
  unfold sTold
  repeat' split
  all_goals rfl
theorem pmTold {v : zV} {α : sA} {l : sL} {β : sB} {ρ : sR} (h : MQ' v α l ρ) (ho : OKs α l ρ) (hB : pMB v β) {t : Nat} (ht : t ≤ 8) : (if nI t = (0 : Int32) then
      zix (nI t) (zlen (zrf 116 12)) <|
      some (v (zrf 116 12) (nI t).toNatClampNeg, v)
    else
      if nI t = (1 : Int32) then
        zix (nI t) (zlen (zrf 116 12)) <|
        some (v (zrf 116 12) (nI t).toNatClampNeg, v)
      else
        if nI t = (2 : Int32) then
          zix (nI t) (zlen (zrf 116 12)) <|
          some (v (zrf 116 12) (nI t).toNatClampNeg, v)
        else
          if nI t = (3 : Int32) then
            zix (99 : Int32) (zlen (zrf 116 35)) <|
            some (v (zrf 116 35) ((99 : Int32)).toNatClampNeg, v)
          else
            if nI t = (4 : Int32) then
              zix (61 : Int32) (zlen (zrf 116 35)) <|
              some (v (zrf 116 35) ((61 : Int32)).toNatClampNeg, v)
            else
              if nI t = (5 : Int32) then
                zbind (fX10_stateMany 116 (zrf 116 35) (0 : Int32) v) fun r_4 v_3 =>
                some (r_4, v_3)
              else
                if nI t = (6 : Int32) then
                  zix (nI t - (2 : Int32)) (zlen (zrf 116 12)) <|
                  some (v (zrf 116 12) (nI t - (2 : Int32)).toNatClampNeg, v)
                else
                  if nI t = (7 : Int32) then
                    zix (nI t - (2 : Int32)) (zlen (zrf 116 12)) <|
                    some (v (zrf 116 12) (nI t - (2 : Int32)).toNatClampNeg, v)
                  else
                    some (v 116 40, v)) = some (sTold α β ρ t, v) := by
  have eM := eqM_of h ho
  have bD := bdC_of ho
  have hR := h.2.1
  have hA := h.1.1.1
  simp only [nI_is0 (show t < 100 by omega), nI_is1 (show t < 100 by omega), nI_is2 (show t < 100 by omega), nI_is3 (show t < 100 by omega), nI_is4 (show t < 100 by omega), nI_is5 (show t < 100 by omega), nI_is6 (show t < 100 by omega), nI_is7 (show t < 100 by omega), rf_116_35, rx_12, l120, l567, zx99, c99, zx61, c61, p_mWaiting eM bD, zbind_some, hB.1, hR.1.1, hR.1.2.2.1]
  unfold sTold
  by_cases c0 : t = 0
  · rw [if_pos c0, if_pos c0, c0, zix_nI (by omega) (by omega), nI_cl' (by omega), hA 0 (by decide)]
  by_cases c1 : t = 1
  · rw [if_neg c0, if_neg c0, if_pos c1, if_pos c1, c1, zix_nI (by omega) (by omega), nI_cl' (by omega), hA 1 (by decide)]
  by_cases c2 : t = 2
  · rw [if_neg c0, if_neg c0, if_neg c1, if_neg c1, if_pos c2, if_pos c2, c2, zix_nI (by omega) (by omega), nI_cl' (by omega), hA 2 (by decide)]
  rw [if_neg c0, if_neg c0, if_neg c1, if_neg c1, if_neg c2, if_neg c2]
  by_cases c3 : t = 3
  · rw [if_pos c3, if_pos c3]
  by_cases c4 : t = 4
  · rw [if_neg c3, if_neg c3, if_pos c4, if_pos c4]
  by_cases c5 : t = 5
  · rw [if_neg c3, if_neg c3, if_neg c4, if_neg c4, if_pos c5, if_pos c5]
  rw [if_neg c3, if_neg c3, if_neg c4, if_neg c4, if_neg c5, if_neg c5]
  by_cases c6 : t = 6
  · rw [if_pos c6, if_pos c6, c6, show nI 6 - (2 : Int32) = nI 4 from rfl, zix_nI (by omega) (by omega), nI_cl' (by omega), hA 4 (by decide)]
  by_cases c7 : t = 7
  · rw [if_neg c6, if_neg c6, if_pos c7, if_pos c7, c7, show nI 7 - (2 : Int32) = nI 5 from rfl, zix_nI (by omega) (by omega), nI_cl' (by omega), hA 5 (by decide)]
  rw [if_neg c6, if_neg c6, if_neg c7, if_neg c7]
theorem case_5 {v : zV} (hInv : sInv v) (p1 : Int32) : ∃ w, fLc_5 p1 v = some w ∧ sInv w := by
  obtain ⟨α, l, β, ρ, ρb, im, tp, pl, r0, r1, hs, hI, hM⟩ := hInv
  have ha := hs.1
  have hl := hs.2.1
  have hbk := hs.2.2.1
  have hQ : CQ v α l ρ := ⟨hI.1, hI.2.2.1⟩
  have hO : OKs α l ρ := ⟨ha, hl, hs.2.2.2.1.1, hs.2.2.2.1.2⟩
  have eC := eqC_of hQ hO
  have bD := bdC_of hO
  have q1 : v 3 1 = nI (α 0 1) := hI.1.1.1.2.1
  have q0 : v 3 0 = nI (α 0 0) := hI.1.1.1.1
  have M16 : α 0 1 ≤ 16 := ha.1.2.1
  have Q6 : α 0 0 ≤ 6 := ha.1.1
  show ∃ w, zTail (zcatch (fX9_told 0 p1 v) 603 none (some 1)) (fX10_told 116 p1) = some w ∧ sInv w
  by_cases h0 : inB p1 0 8
  · skip
    obtain ⟨t, tl, th, rfl⟩ := id h0
    refine tl_Y hs hI hM (v1 := v) (r := sTold α β ρ t) (by unfold fX9_told; rw [pwY (x := (nI t)) (lo := 0) (hi := 8) (a := 0) (b := 8) (by decide) (by decide) rfl rfl h0, zbind_some, pneedY, zbx_0]; exact pTold hQ hO hI.2.1 th) (frC_rf v) (fun v2 b2 => ?_)
    obtain ⟨g0, g1, g2, gQ, gD, gE⟩ := qM0 hs b2
    refine ⟨_, ?_, frM_rf _⟩
    unfold fX10_told fX10_told_21
    rw [zlet_eq, pinY (x := (nI t)) (lo := 0) (hi := 8) (a := 0) (b := 8) (by decide) (by decide) rfl rfl h0, zbind_some, if_neg (show ¬ (1 : Int32) = 0 by decide), pb0 g0, zbind_some, if_pos (show (0 : Int32) = 0 from rfl)]
    exact pmTold gQ hO gD.2.1 th
  · exact tl_N (z1 := 1) (y := 1) (z := 0) hs hI hM (by decide) (by unfold fX9_told; rw [pwN (x := p1) (lo := 0) (hi := 8) (a := 0) (b := 8) (by decide) (by decide) rfl rfl h0, zbind_some, pneedN, zbx_2]) (by decide) ⟨fun h => absurd h (by decide), fun _ => rfl⟩ (fun v2 b2 => by
      obtain ⟨g0, g1, g2, gQ, gD, gE⟩ := qM0 hs b2
      refine ⟨_, ?_, rfM_up v2 1 1⟩
      unfold fX10_told fX10_told_21
      rw [zlet_eq, pinN (x := p1) (lo := 0) (hi := 8) (a := 0) (b := 8) (by decide) (by decide) rfl rfl h0, zbind_some, if_pos (show (0 : Int32) = 0 from rfl), pb1_11 g0, zbind_some, if_neg (show ¬ (1 : Int32) = 0 by decide)]
      rfl)
theorem case_33 {v : zV} (hInv : sInv v) (p1 p2 p3 p4 : Int32) : ∃ w, fLc_33 p1 p2 p3 p4 v = some w ∧ sInv w := by
  obtain ⟨α, l, β, ρ, ρb, im, tp, pl, r0, r1, hs, hI, hM⟩ := hInv
  have ha := hs.1
  have hl := hs.2.1
  have hbk := hs.2.2.1
  have hQ : CQ v α l ρ := ⟨hI.1, hI.2.2.1⟩
  have hO : OKs α l ρ := ⟨ha, hl, hs.2.2.2.1.1, hs.2.2.2.1.2⟩
  have eC := eqC_of hQ hO
  have oC : okC ρ := okW_C ha (ok_13 ha) hO.2.2.1
  have bD := bdC_of hO
  have q1 : v 3 1 = nI (α 0 1) := hI.1.1.1.2.1
  have q0 : v 3 0 = nI (α 0 0) := hI.1.1.1.1
  have M16 : α 0 1 ≤ 16 := ha.1.2.1
  have Q6 : α 0 0 ≤ 6 := ha.1.1
  show ∃ w, zTail (zcatch (fX9_patrons 0 p1 p2 p3 p4 v) 603 (some 1) (some 2)) (fX10_patrons 116 p1 p2 p3 p4) = some w ∧ sInv w
  by_cases h0 : inN p1 (α 0 1)
  case neg =>
    exact tl_N (z1 := 0) (y := 1) (z := 0) hs hI hM (by decide) (by unfold fX9_patrons; rw [(p_needMan (x := p1) q1 M16).2 h0, zbx_1]) (by decide) ⟨fun _ => rfl, fun h => absurd h (by decide)⟩ (fun v2 b2 => by
      obtain ⟨g0, g1, g2, gQ, gD, gE⟩ := qM0 hs b2
      refine ⟨_, ?_, rfM_up v2 1 0⟩
      unfold fX10_patrons fX10_patrons_27
      rw [zlet_eq, pmanN (x := p1) g1 M16 h0, zbind_some, if_pos (show (0 : Int32) = 0 from rfl), pb1_10 g0, zbind_some, if_neg (show ¬ (1 : Int32) = 0 by decide)]
      rfl)
  by_cases h1 : inN p2 (α 0 1)
  case neg =>
    exact tl_N (z1 := 0) (y := 1) (z := 0) hs hI hM (by decide) (by unfold fX9_patrons; rw [(p_needMan (x := p1) q1 M16).1 h0, zbx_0, (p_needMan (x := p2) q1 M16).2 h1, zbx_1]) (by decide) ⟨fun _ => rfl, fun h => absurd h (by decide)⟩ (fun v2 b2 => by
      obtain ⟨g0, g1, g2, gQ, gD, gE⟩ := qM0 hs b2
      refine ⟨_, ?_, rfM_up v2 1 0⟩
      unfold fX10_patrons fX10_patrons_27
      rw [zlet_eq, pmanY (x := p1) g1 M16 h0, zbind_some, if_neg (show ¬ (1 : Int32) = 0 by decide), pmanN (x := p2) g1 M16 h1, zbind_some, if_pos (show (0 : Int32) = 0 from rfl), pb1_10 g0, zbind_some, if_neg (show ¬ (1 : Int32) = 0 by decide)]
      rfl)
  by_cases h2 : p1 = p2
  case pos =>
    exact tl_N (z1 := 1) (y := 2) (z := 0) hs hI hM (by decide) (by unfold fX9_patrons fX9_patrons_43; rw [(p_needMan (x := p1) q1 M16).1 h0, zbx_0, (p_needMan (x := p2) q1 M16).1 h1, zbx_0, if_pos h2, pneedN, zbx_2]) (by decide) ⟨fun h => absurd h (by decide), fun _ => rfl⟩ (fun v2 b2 => by
      obtain ⟨g0, g1, g2, gQ, gD, gE⟩ := qM0 hs b2
      refine ⟨_, ?_, rfM_up v2 2 1⟩
      unfold fX10_patrons fX10_patrons_27
      rw [zlet_eq, pmanY (x := p1) g1 M16 h0, zbind_some, if_neg (show ¬ (1 : Int32) = 0 by decide), pmanY (x := p2) g1 M16 h1, zbind_some, if_neg (show ¬ (1 : Int32) = 0 by decide), pb0 g0, zbind_some, if_pos (show (0 : Int32) = 0 from rfl), if_pos h2, pb1_21 g0, zbind_some, if_neg (show ¬ (1 : Int32) = 0 by decide)]
      rfl)
  obtain ⟨m, ml, rfl⟩ := id h0
  obtain ⟨o, ol, rfl⟩ := id h1
  by_cases h3 : sSt ρ m = 0
  case neg =>
    exact tl_N (z1 := 1) (y := 2) (z := 0) hs hI hM (by decide) (by unfold fX9_patrons fX9_patrons_43; rw [(p_needMan (x := (nI m)) q1 M16).1 h0, zbx_0, (p_needMan (x := (nI o)) q1 M16).1 h1, zbx_0, if_neg h2, rf_0_7, p_isWaiting r37.1 hQ.2 oC (show m < 16 by omega), if_neg h3, zbind_some, if_pos (show (0 : Int32) = 0 from rfl), pneedN, zbx_2]) (by decide) ⟨fun h => absurd h (by decide), fun _ => rfl⟩ (fun v2 b2 => by
      obtain ⟨g0, g1, g2, gQ, gD, gE⟩ := qM0 hs b2
      refine ⟨_, ?_, rfM_up v2 2 1⟩
      unfold fX10_patrons fX10_patrons_27
      rw [zlet_eq, pmanY (x := (nI m)) g1 M16 h0, zbind_some, if_neg (show ¬ (1 : Int32) = 0 by decide), pmanY (x := (nI o)) g1 M16 h1, zbind_some, if_neg (show ¬ (1 : Int32) = 0 by decide), pb0 g0, zbind_some, if_pos (show (0 : Int32) = 0 from rfl), if_neg h2, rf_116_35, Int32.zero_add, Int32.zero_add, l567, zix_nI (show m < 305 by omega) (by omega), nI_cl' (show m < 2 ^ 31 by omega), gQ.2.1.2.1 m (by omega), if_neg (fun z => h3 ((nI_is0 (show sSt ρ m < 100 by have := oC.2.2.1 m; omega)).mp z)), pb1_21 g0, zbind_some, if_neg (show ¬ (1 : Int32) = 0 by decide)]
      rfl)
  by_cases h4 : sSt ρ o = 0
  case neg =>
    exact tl_N (z1 := 1) (y := 2) (z := 0) hs hI hM (by decide) (by unfold fX9_patrons fX9_patrons_43; rw [(p_needMan (x := (nI m)) q1 M16).1 h0, zbx_0, (p_needMan (x := (nI o)) q1 M16).1 h1, zbx_0, if_neg h2, rf_0_7, p_isWaiting r37.1 hQ.2 oC (show m < 16 by omega), if_pos h3, zbind_some, if_neg (show ¬ (1 : Int32) = 0 by decide), p_isWaiting r37.1 hQ.2 oC (show o < 16 by omega), if_neg h4, zbind_some, if_pos (show (0 : Int32) = 0 from rfl), pneedN, zbx_2]) (by decide) ⟨fun h => absurd h (by decide), fun _ => rfl⟩ (fun v2 b2 => by
      obtain ⟨g0, g1, g2, gQ, gD, gE⟩ := qM0 hs b2
      refine ⟨_, ?_, rfM_up v2 2 1⟩
      unfold fX10_patrons fX10_patrons_27
      rw [zlet_eq, pmanY (x := (nI m)) g1 M16 h0, zbind_some, if_neg (show ¬ (1 : Int32) = 0 by decide), pmanY (x := (nI o)) g1 M16 h1, zbind_some, if_neg (show ¬ (1 : Int32) = 0 by decide), pb0 g0, zbind_some, if_pos (show (0 : Int32) = 0 from rfl), if_neg h2, rf_116_35, Int32.zero_add, Int32.zero_add, l567, zix_nI (show m < 305 by omega) (by omega), nI_cl' (show m < 2 ^ 31 by omega), gQ.2.1.2.1 m (by omega), if_pos ((nI_is0 (show sSt ρ m < 100 by have := oC.2.2.1 m; omega)).mpr h3), zix_nI (show o < 305 by omega) (by omega), nI_cl' (show o < 2 ^ 31 by omega), gQ.2.1.2.1 o (by omega), if_neg (fun z => h4 ((nI_is0 (show sSt ρ o < 100 by have := oC.2.2.1 o; omega)).mp z)), pb1_21 g0, zbind_some, if_neg (show ¬ (1 : Int32) = 0 by decide)]
      rfl)
  by_cases h5 : inB p3 1 99
  case neg =>
    exact tl_N (z1 := 1) (y := 2) (z := 0) hs hI hM (by decide) (by unfold fX9_patrons fX9_patrons_43; rw [(p_needMan (x := (nI m)) q1 M16).1 h0, zbx_0, (p_needMan (x := (nI o)) q1 M16).1 h1, zbx_0, if_neg h2, rf_0_7, p_isWaiting r37.1 hQ.2 oC (show m < 16 by omega), if_pos h3, zbind_some, if_neg (show ¬ (1 : Int32) = 0 by decide), p_isWaiting r37.1 hQ.2 oC (show o < 16 by omega), if_pos h4, zbind_some, if_neg (show ¬ (1 : Int32) = 0 by decide), pneedY, zbx_0, pwN (x := p3) (lo := 1) (hi := 99) (a := 1) (b := 99) (by decide) (by decide) rfl rfl h5, zbind_some, pneedN, zbx_2]) (by decide) ⟨fun h => absurd h (by decide), fun _ => rfl⟩ (fun v2 b2 => by
      obtain ⟨g0, g1, g2, gQ, gD, gE⟩ := qM0 hs b2
      refine ⟨_, ?_, rfM_up v2 2 1⟩
      unfold fX10_patrons fX10_patrons_27
      rw [zlet_eq, pmanY (x := (nI m)) g1 M16 h0, zbind_some, if_neg (show ¬ (1 : Int32) = 0 by decide), pmanY (x := (nI o)) g1 M16 h1, zbind_some, if_neg (show ¬ (1 : Int32) = 0 by decide), pb0 g0, zbind_some, if_pos (show (0 : Int32) = 0 from rfl), if_neg h2, rf_116_35, Int32.zero_add, Int32.zero_add, l567, zix_nI (show m < 305 by omega) (by omega), nI_cl' (show m < 2 ^ 31 by omega), gQ.2.1.2.1 m (by omega), if_pos ((nI_is0 (show sSt ρ m < 100 by have := oC.2.2.1 m; omega)).mpr h3), zix_nI (show o < 305 by omega) (by omega), nI_cl' (show o < 2 ^ 31 by omega), gQ.2.1.2.1 o (by omega), if_pos ((nI_is0 (show sSt ρ o < 100 by have := oC.2.2.1 o; omega)).mpr h4), pinN (x := p3) (lo := 1) (hi := 99) (a := 1) (b := 99) (by decide) (by decide) rfl rfl h5, zbind_some, if_pos (show (0 : Int32) = 0 from rfl), pb1_21 g0, zbind_some, if_neg (show ¬ (1 : Int32) = 0 by decide)]
      rfl)
  by_cases h6 : inB p4 0 1
  case neg =>
    exact tl_N (z1 := 1) (y := 2) (z := 0) hs hI hM (by decide) (by unfold fX9_patrons fX9_patrons_43; rw [(p_needMan (x := (nI m)) q1 M16).1 h0, zbx_0, (p_needMan (x := (nI o)) q1 M16).1 h1, zbx_0, if_neg h2, rf_0_7, p_isWaiting r37.1 hQ.2 oC (show m < 16 by omega), if_pos h3, zbind_some, if_neg (show ¬ (1 : Int32) = 0 by decide), p_isWaiting r37.1 hQ.2 oC (show o < 16 by omega), if_pos h4, zbind_some, if_neg (show ¬ (1 : Int32) = 0 by decide), pneedY, zbx_0, pwY (x := p3) (lo := 1) (hi := 99) (a := 1) (b := 99) (by decide) (by decide) rfl rfl h5, zbind_some, pneedY, zbx_0, pwN (x := p4) (lo := 0) (hi := 1) (a := 0) (b := 1) (by decide) (by decide) rfl rfl h6, zbind_some, pneedN, zbx_2]) (by decide) ⟨fun h => absurd h (by decide), fun _ => rfl⟩ (fun v2 b2 => by
      obtain ⟨g0, g1, g2, gQ, gD, gE⟩ := qM0 hs b2
      refine ⟨_, ?_, rfM_up v2 2 1⟩
      unfold fX10_patrons fX10_patrons_27
      rw [zlet_eq, pmanY (x := (nI m)) g1 M16 h0, zbind_some, if_neg (show ¬ (1 : Int32) = 0 by decide), pmanY (x := (nI o)) g1 M16 h1, zbind_some, if_neg (show ¬ (1 : Int32) = 0 by decide), pb0 g0, zbind_some, if_pos (show (0 : Int32) = 0 from rfl), if_neg h2, rf_116_35, Int32.zero_add, Int32.zero_add, l567, zix_nI (show m < 305 by omega) (by omega), nI_cl' (show m < 2 ^ 31 by omega), gQ.2.1.2.1 m (by omega), if_pos ((nI_is0 (show sSt ρ m < 100 by have := oC.2.2.1 m; omega)).mpr h3), zix_nI (show o < 305 by omega) (by omega), nI_cl' (show o < 2 ^ 31 by omega), gQ.2.1.2.1 o (by omega), if_pos ((nI_is0 (show sSt ρ o < 100 by have := oC.2.2.1 o; omega)).mpr h4), pinY (x := p3) (lo := 1) (hi := 99) (a := 1) (b := 99) (by decide) (by decide) rfl rfl h5, zbind_some, if_neg (show ¬ (1 : Int32) = 0 by decide), pinN (x := p4) (lo := 0) (hi := 1) (a := 0) (b := 1) (by decide) (by decide) rfl rfl h6, zbind_some, if_pos (show (0 : Int32) = 0 from rfl), pb1_21 g0, zbind_some, if_neg (show ¬ (1 : Int32) = 0 by decide)]
      rfl)
  obtain ⟨b, bl, bh, rfl⟩ := id h5
  obtain ⟨t, tl, th, rfl⟩ := id h6
  obtain ⟨w1, hw1, f1⟩ := p_patrons hQ hO (x := b) (m := m) (o := o) (what := t) (by omega) (by omega) th
  refine tl_Y hs hI hM (v1 := w1) (r := sQpO (sQp α l ρ b m o 17) t) (by unfold fX9_patrons fX9_patrons_43; rw [(p_needMan (x := (nI m)) q1 M16).1 h0, zbx_0, (p_needMan (x := (nI o)) q1 M16).1 h1, zbx_0, if_neg h2, rf_0_7, p_isWaiting r37.1 hQ.2 oC (show m < 16 by omega), if_pos h3, zbind_some, if_neg (show ¬ (1 : Int32) = 0 by decide), p_isWaiting r37.1 hQ.2 oC (show o < 16 by omega), if_pos h4, zbind_some, if_neg (show ¬ (1 : Int32) = 0 by decide), pneedY, zbx_0, pwY (x := (nI b)) (lo := 1) (hi := 99) (a := 1) (b := 99) (by decide) (by decide) rfl rfl h5, zbind_some, pneedY, zbx_0, pwY (x := (nI t)) (lo := 0) (hi := 1) (a := 0) (b := 1) (by decide) (by decide) rfl rfl h6, zbind_some, pneedY, zbx_0, rf_0_12, hw1, zbind_some]) f1 (fun v2 b2 => ?_)
  obtain ⟨g0, g1, g2, gQ, gD, gE⟩ := qM0 hs b2
  obtain ⟨w2, hw2, f2⟩ := p_mPatrons gQ hO (x := b) (m := m) (o := o) (what := t) (by omega) (by omega) th
  refine ⟨w2, ?_, f2⟩
  unfold fX10_patrons fX10_patrons_27
  rw [zlet_eq, pmanY (x := (nI m)) g1 M16 h0, zbind_some, if_neg (show ¬ (1 : Int32) = 0 by decide), pmanY (x := (nI o)) g1 M16 h1, zbind_some, if_neg (show ¬ (1 : Int32) = 0 by decide), pb0 g0, zbind_some, if_pos (show (0 : Int32) = 0 from rfl), if_neg h2, rf_116_35, Int32.zero_add, Int32.zero_add, l567, zix_nI (show m < 305 by omega) (by omega), nI_cl' (show m < 2 ^ 31 by omega), gQ.2.1.2.1 m (by omega), if_pos ((nI_is0 (show sSt ρ m < 100 by have := oC.2.2.1 m; omega)).mpr h3), zix_nI (show o < 305 by omega) (by omega), nI_cl' (show o < 2 ^ 31 by omega), gQ.2.1.2.1 o (by omega), if_pos ((nI_is0 (show sSt ρ o < 100 by have := oC.2.2.1 o; omega)).mpr h4), pinY (x := (nI b)) (lo := 1) (hi := 99) (a := 1) (b := 99) (by decide) (by decide) rfl rfl h5, zbind_some, if_neg (show ¬ (1 : Int32) = 0 by decide), pinY (x := (nI t)) (lo := 0) (hi := 1) (a := 0) (b := 1) (by decide) (by decide) rfl rfl h6, zbind_some, if_neg (show ¬ (1 : Int32) = 0 by decide), pb0 g0, zbind_some, if_pos (show (0 : Int32) = 0 from rfl)]
  exact hw2
end
