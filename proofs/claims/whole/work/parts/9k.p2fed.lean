/-! FEED, the call -/
section
theorem case_0 {v : zV} (hInv : sInv v) (p1 p2 p3 p4 p5 : Int32) : ∃ w, fLc_0 p1 p2 p3 p4 p5 v = some w ∧ sInv w := by
  obtain ⟨α, l, β, ρ, ρb, im, tp, pl, r0, r1, hs, hI, hM⟩ := hInv
  have ha := hs.1
  have hl := hs.2.1
  have hbk := hs.2.2.1
  have hQ : CQ v α l ρ := ⟨hI.1, hI.2.2.1⟩
  have hO : OKs α l ρ := ⟨ha, hl, hs.2.2.2.1.1, hs.2.2.2.1.2⟩
  have hi := hs.2.2.2.2.2.2.1.1
  have hy := hs.2.2.2.1.2
  have oC : okC ρ := okW_C ha (ok_13 ha) hO.2.2.1
  have q1 : v 3 1 = nI (α 0 1) := hI.1.1.1.2.1
  have q0 : v 3 0 = nI (α 0 0) := hI.1.1.1.1
  have M16 : α 0 1 ≤ 16 := ha.1.2.1
  have Q6 : α 0 0 ≤ 6 := ha.1.1
  show ∃ w, zTwo (fX9_feed 0 p1 p2 p3 p4 p5 v) (fX10_feed 116 p1 p2 p3 p4 p5) = some w ∧ sInv w
  have h600 := hs.2.2.2.2.2.2.2.1
  have hT : tpC tp v := hI.2.2.2.2.2.1
  by_cases c : tp.length + 20 ≤ 600
  case neg =>
    refine tl_2 hs hI hM (v1 := v) (r := -1) ?_ (frC_rf v) (fun v2 b2 => ⟨zup v2 116 0 0, ?_, frM_rf _⟩)
    · unfold fX9_feed
      rw [rf_0_0, hT.1, show (nI tp.length + 20 : Int32) = nI (tp.length + 20) from nI_add _ 20, if_neg (show ¬ nI (tp.length + 20) ≤ 600 from leN (b := 600) (by omega) (by omega) c)]
    · unfold fX10_feed
      rw [zlet_eq, p_up_n _ _ (Or.inr (by decide)), b2.2.2.2.2.2.2.2.2.1.1, show (nI tp.length + 20 : Int32) = nI (tp.length + 20) from nI_add _ 20, if_neg (show ¬ nI (tp.length + 20) ≤ 600 from leN (b := 600) (by omega) (by omega) c)]
  obtain ⟨xs, x0, x1, x2, x3, x4⟩ : ∃ xs : Nat → Int32, xs 0 = p1 ∧ xs 1 = p2 ∧ xs 2 = p3 ∧ xs 3 = p4 ∧ xs 4 = p5 := ⟨fun j => if j = 0 then p1 else if j = 1 then p2 else if j = 2 then p3 else if j = 3 then p4 else p5, rfl, rfl, rfl, rfl, rfl⟩
  obtain ⟨t, ht, tT, tf⟩ := p_feed5 hT c p1 p2 p3 p4 p5 x0 x1 x2 x3 x4
  have hlen : (tp ++ (List.range 20).map (fun i => byF xs (0 + i))).length = tp.length + 20 := by rw [List.length_append, List.length_map, List.length_range]
  have hby : ∀ k, k < (tp ++ (List.range 20).map (fun i => byF xs (0 + i))).length → (tp ++ (List.range 20).map (fun i => byF xs (0 + i))).getD k 0 < 256 := fun k hk => by
    rw [List.getD_eq_getElem?_getD, List.getElem?_append]
    by_cases q : k < tp.length
    · rw [if_pos q, ← List.getD_eq_getElem?_getD]
      exact hs.2.2.2.2.2.2.2.2 k q
    · rw [if_neg q, List.getElem?_map]
      rcases h : (List.range 20)[k - tp.length]? with _ | j
      · exact (by decide : (0 : Nat) < 256)
      · exact byA_lt _ _
  generalize hT2 : tp ++ (List.range 20).map (fun i => byF xs (0 + i)) = tp2 at tT hlen hby
  have hs' : okS α l β ρ ρb im tp2 := ⟨ha, hl, hbk, hs.2.2.2.1, hs.2.2.2.2.1, hs.2.2.2.2.2.1, hs.2.2.2.2.2.2.1, by omega, hby⟩
  refine tl_G2 hs hs' hM (v1 := t) (r := nI (tp.length + 20)) (r0' := r0) (r1' := r1) (pl' := pl) ht (fun a g1 g2 => tf.1 a (by omega) (by omega)) ?_ (fun v2 b2 => ?_)
  · obtain ⟨h1, h2, h3, h4, ⟨h5, h6⟩, -, h9, h10, h11⟩ := hI
    have e0 := tf.1 0 (by decide) (by decide)
    exact ⟨⟨CA_fr h1.1 (fun a g1 g2 => tf.1 a (by omega) (by omega)), CL_fr h1.2 (tf.1 23 (by decide) (by decide)) (tf.1 24 (by decide) (by decide))⟩, CB_fr h2 (fun a g1 g2 => tf.1 a (by omega) (by omega)), RC_fr h3 (fun a g1 g2 => tf.1 a (by omega) (by omega)), RC_fr h4 (fun a g1 g2 => tf.1 a (by omega) (by omega)), ⟨by rw [e0]; exact h5, fun k hk => RC_fr (h6 k hk) (fun a g1 g2 => tf.1 a (by omega) (by omega))⟩, tT, by rw [tf.2 3 (by decide)]; exact h9, by rw [e0]; exact h10, by rw [e0]; exact h11⟩
  · have u1 : (zup v2 116 0 0) 116 1 = nI tp.length := by rw [p_up_n _ _ (Or.inr (by decide))]; exact b2.2.2.2.2.2.2.2.2.1.1
    have uT : tpM tp (zup v2 116 0 0) := ⟨u1, fun k hk => by rw [p_up_a _ _ _ (by decide)]; exact b2.2.2.2.2.2.2.2.2.1.2 k hk⟩
    obtain ⟨w, hw, wT, wa, wk⟩ := p_mFeedL p1 p2 p3 p4 p5 x0 x1 x2 x3 x4 20 zFU 0 tp (zup v2 116 0 0) rfl (by unfold zFU; omega) uT c
    rw [hT2] at wT
    have fa : ∀ a, a ≠ 116 → a ≠ 117 → w a = v2 a := fun a g1 g2 => (wa a g1 g2).trans (p_up_a _ _ _ g1)
    have fk : ∀ k, k ≠ 0 → k ≠ 1 → w 116 k = v2 116 k := fun k g1 g2 => (wk k g2).trans (p_up_n _ _ (Or.inr g1))
    refine ⟨w, ?_, fun a g => fa a (by omega) (by omega), ?_⟩
    · unfold fX10_feed
      rw [zlet_eq, u1, show (nI tp.length + 20 : Int32) = nI (tp.length + 20) from nI_add _ 20, if_pos (show nI (tp.length + 20) ≤ 600 from leY (b := 600) (by omega) (by omega) c)]
      exact hw
    · obtain ⟨h1, h2, h3, h4, h5, ⟨h44, h46, h47⟩, h6, ⟨h7, h8⟩, -, h11, h12, h13⟩ := b2
      exact ⟨⟨MA_fr h1.1 ha (fun a g1 g2 => fa a (by omega) (by omega)), ML_fr h1.2 hl (fk 26 (by decide) (by decide)) (fun a g1 g2 => fa a (by omega) (by omega))⟩, MB_fr h2 hbk.1 (fk 40 (by decide) (by decide)) (fun a g1 g2 => fa a (by omega) (by omega)), MR_fr h3 (fa 567 (by decide) (by decide)), MR_fr h4 (fa 568 (by decide) (by decide)), MR_fr h5 (fa 569 (by decide) (by decide)), ⟨(fk 44 (by decide) (by decide)).trans h44, (fk 46 (by decide) (by decide)).trans h46, (fk 47 (by decide) (by decide)).trans h47⟩, (fk 41 (by decide) (by decide)).trans h6, ⟨(fk 42 (by decide) (by decide)).trans h7, fun k hk => MR_fr (h8 k hk) (fa (562 + k) (by omega) (by omega))⟩, wT, (fk 3 (by decide) (by decide)).trans h11, by rw [fa 118 (by decide) (by decide)]; exact h12, by rw [fa 118 (by decide) (by decide)]; exact h13⟩
end
