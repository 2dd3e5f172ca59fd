/-! the class: deaths, and a year -/
section
/-- how many are gone, from one row to the next -/
def sGone (ρ ρ' : sR) (m : Nat) : Nat := if sSt ρ m = 3 then 0 else 1 + (sSc ρ' 3 - sSc ρ 3)
theorem p_agree {i : Nat} (hi : rowAt i) {α : sA} (ha : okA α) {v : zV} {ρ : sR} (hE : pCA 3 v α) (h : RC i v ρ) {n : Nat} (hn : n ≤ 13) (ho : okW α n ρ) (c : Nat) (hc : c < 2 ^ 31) : fX2_agreeAcross 50 i (nI c) v = some (if 0 < c ∧ c < (sCh ρ).length ∧ sDf α ((sCh ρ).getD (c - 1) 0) ((sCh ρ).getD c 0) = 0 then 1 else 0, v) := by
  have hoC := okW_C ha hn ho
  have h13 := hoC.1
  unfold fX2_agreeAcross
  rcases Nat.eq_zero_or_pos c with h0 | h0
  · rw [h0, if_pos (by decide), if_neg (by omega)]
  · rw [if_neg (nI_nle h0 hc), h.1.2.1]
    by_cases h1 : c < (sCh ρ).length
    · rw [if_neg (nI_ge h1 (by omega)), i_1, nI_sub' h0, p_onChair hi.1 h hoC (show c - 1 < _ by omega), zbind_some, p_onChair hi.1 h hoC h1, zbind_some, rf_50_0, p_same hE ha (okW_lt ho (getD_mem (by omega))) (okW_lt ho (getD_mem h1))]
      simp only [zbind_some, i_0, i_1, zb_eq]
      by_cases e : sDf α ((sCh ρ).getD (c - 1) 0) ((sCh ρ).getD c 0) = 0
      · rw [if_neg (fun q => q e), if_pos ⟨h0, h1, e⟩]
      · rw [if_pos e, if_neg (fun q => e q.2.2)]
    · rw [if_pos (nI_le (by omega) hc), if_neg (fun q => h1 q.2.1)]
theorem p_killL {i : Nat} (hi : rowAt i) {α : sA} (ha : okA α) {n0 : Nat} (hn0 : n0 ≤ 13) (c : Nat) (hc : c < 2 ^ 31) : ∀ (d n j g : Nat) (ρ : sR) (v : zV), (sCh ρ).length - c ≤ d → j + ((sCh ρ).length - c) ≤ 12 → d < n → pCA 3 v α → RC i v ρ → okW α n0 ρ → ∃ w, fX2_kill_46 n 50 i (nI c) (nI g) (nI j) v = some (nI (g + (sSc (sFall α c d ρ) 3 - sSc ρ 3)), w) ∧ RC i w (sFall α c d ρ) ∧ onlyR i v w := by
  intro d
  have h37 := hi.2.1
  induction d with
  | zero =>
    intro n j g ρ v hd hj hn hE h ho
    obtain ⟨n, rfl⟩ : ∃ k, n = k + 1 := ⟨n - 1, by omega⟩
    refine ⟨v, ?_, h, onlyR_rf i v⟩
    rw [fX2_kill_46]
    dsimp only
    rw [sFall, Nat.sub_self, Nat.add_zero]
    by_cases h12 : (12 : Int32) ≤ nI j
    · rw [if_pos h12]
    · rw [if_neg h12, p_agree hi ha hE h hn0 ho c hc, if_neg (by omega)]
      rfl
  | succ d ih =>
    intro n j g ρ v hd hj hn hE h ho
    obtain ⟨n, rfl⟩ : ∃ k, n = k + 1 := ⟨n - 1, by omega⟩
    rw [fX2_kill_46]
    dsimp only
    rw [sFall]
    by_cases e : 0 < c ∧ c < (sCh ρ).length ∧ sDf α ((sCh ρ).getD (c - 1) 0) ((sCh ρ).getD c 0) = 0
    · rw [if_neg (show ¬ (12 : Int32) ≤ nI j from nI_ge (b := 12) (by omega) (by decide)), p_agree hi ha hE h hn0 ho c hc, if_pos e, zbind_some, if_neg (by decide)]
      obtain ⟨w, hw, hr, hon⟩ := p_leave hi.1 h (okW_C ha hn0 ho) e.2.1
      have hlen : (sCh (sLeave ρ c)).length = (sCh ρ).length - 1 := by
        show ((sCh ρ).eraseIdx c).length = _
        rw [List.length_eraseIdx, if_pos e.2.1]
      have ho2 : okW α n0 (sLeave ρ c) := by
        have := okB_leave ho e.2.1
        unfold okW
        rw [sLeave_sc ρ c (k := 0) (by decide)]
        exact this
      obtain ⟨u, hu, hur, huon⟩ := ih n (j + 1) (g + 1) (sLeave ρ c) w (by omega) (by omega) (by omega) (CA_fr hE (fun a h1 h2 => hon a (by omega))) hr ho2
      have hm := sFall_mono α c d (sLeave ρ c)
      have h3 : sSc (sLeave ρ c) 3 = sSc ρ 3 + 1 := sLeave_sc3 ρ c
      refine ⟨u, ?_, ?_, onlyR_tr hon huon⟩
      · rw [hw, zbindv_some, nI_1, nI_1, hu, if_pos e]
        congr 3
        omega
      · rw [if_pos e]; exact hur
    · refine ⟨v, ?_, by rw [if_neg e]; exact h, onlyR_rf i v⟩
      rw [if_neg e, Nat.sub_self, Nat.add_zero]
      by_cases h12 : (12 : Int32) ≤ nI j
      · rw [if_pos h12]
      · rw [if_neg h12, p_agree hi ha hE h hn0 ho c hc, if_neg e]
        rfl
theorem sFall_stop (α : sA) (c : Nat) : ∀ (d e : Nat) (ρ : sR), (sCh ρ).length - c ≤ d → sFall α c (d + e) ρ = sFall α c d ρ := by
  intro d
  induction d with
  | zero =>
    intro e ρ h
    rw [Nat.zero_add]
    cases e with
    | zero => rfl
    | succ e => rw [show sFall α c 0 ρ = ρ from rfl, sFall, if_neg (by omega)]
  | succ d ih =>
    intro e ρ h
    rw [show d + 1 + e = (d + e) + 1 by omega, sFall, sFall]
    by_cases q : 0 < c ∧ c < (sCh ρ).length ∧ sDf α ((sCh ρ).getD (c - 1) 0) ((sCh ρ).getD c 0) = 0
    · rw [if_pos q, if_pos q]
      refine ih e _ ?_
      show ((sCh ρ).eraseIdx c).length - c ≤ d
      rw [List.length_eraseIdx, if_pos q.2.1]
      omega
    · rw [if_neg q, if_neg q]
theorem RC_dead {i : Nat} {v : zV} {ρ : sR} (h : RC i v ρ) (m : Nat) : RC i (zup (zup v (i + 2) m (nI 3)) i 5 (nI (sSc ρ 4 + 1))) (sDead ρ m) :=
  RC_sc (RC_st h (m := m) 3) (k := 5) (j := 4) (Or.inr (Or.inr (Or.inr (Or.inl ⟨rfl, rfl⟩)))) (sSc ρ 4 + 1)
theorem p_vacN {i : Nat} {x : Int32} (h : x < 0) (v : zV) : fX7_vacate i x v = some v := by
  unfold fX7_vacate
  rw [if_pos h]
theorem p_kill {i : Nat} (hi : rowAt i) {α : sA} (ha : okA α) {n : Nat} (hn : n ≤ 13) {v : zV} {ρ : sR} (hE : pCA 3 v α) (h : RC i v ρ) (ho : okW α n ρ) {m : Nat} (hm : m < α 0 1) : ∃ w, fX2_kill 50 i (nI m) v = some (nI (sGone ρ (sKill α ρ m) m), w) ∧ RC i w (sKill α ρ m) ∧ onlyR i v w := by
  have hoC := okW_C ha hn ho
  have h13 := hoC.1
  have hM := ha.1.2.1
  have h37 := hi.2.1
  unfold fX2_kill sGone
  rw [p_isAlive hi.1 h hoC (by omega)]
  simp only [zbind_some, i_0, i_1, zb_eqn]
  by_cases h3 : sSt ρ m = 3
  · refine ⟨v, ?_, ?_, onlyR_rf i v⟩
    · rw [if_pos h3, if_pos h3]
    · unfold sKill
      rw [if_pos h3]
      exact h
  · rw [if_neg h3, if_neg h3, p_chairOf hi.1 h hoC (by omega), zbind_some, sFind_ix, hi.1.2.1, show (3 : Int32) = nI 3 from rfl, p_set (by rw [hi.1.2.2.2.2.2.2.1]; omega), zbindv_some, zlet_eq, p_up_a v (i := i + 2) (a := i) _ _ (by omega), h.1.2.2.2.2.2.1, nI_add]
    have hd := RC_dead h m
    have hdon : onlyR i v (zup (zup v (i + 2) m (nI 3)) i 5 (nI (sSc ρ 4 + 1))) := onlyR_tr (onlyR_up v m _ (by omega) (by omega)) (onlyR_up _ 5 _ (by omega) (by omega))
    generalize zup (zup v (i + 2) m (nI 3)) i 5 (nI (sSc ρ 4 + 1)) = u at hd hdon
    have hkl : sKill α ρ m = match sIx (sCh ρ) m with
      | none => sDead ρ m
      | some c => sFall α c 13 (sGap (sDead ρ m) c) := by
      unfold sKill
      rw [if_neg h3]
      rfl
    rw [hkl]
    cases hx : sIx (sCh ρ) m with
    | none =>
      refine ⟨u, ?_, hd, hdon⟩
      rw [oI_none, p_vacN (of_eq_true (ng_lt (a := 0) (k := 1) (by decide) (by decide) (by decide))), zbindv_some]
      show fX2_kill_46 (99999 + 1) 50 i (-nI 1) (nI 1) (nI 0) u = _
      rw [fX2_kill_46]
      dsimp only
      rw [if_neg (by decide)]
      unfold fX2_agreeAcross
      rw [if_pos (by decide), zbind_some, if_pos rfl]
      show some (nI 1, u) = some (nI (1 + (sSc ρ 3 - sSc ρ 3)), u)
      rw [Nat.sub_self]
    | some c =>
      obtain ⟨hc, hcm⟩ := sIx_some hx
      have hog : okW α n (sGap (sDead ρ m) c) := by
        have := okB_gap ho hx
        unfold okW
        rw [sGap_sc ρ m c (k := 0) (by decide)]
        exact this
      have hodC : okC (sDead ρ m) := ⟨hoC.1, hoC.2.1, fun k => by
        show sUp (sSt ρ) m 3 k < 4
        rw [sUp_if]
        split
        · omega
        · exact hoC.2.2.1 k, by
        show sUp (sSc ρ) 4 (sSc ρ 4 + 1) 0 < 100000
        rw [sUp_n (sSc ρ) (k := 4) (j := 0) _ (by decide)]; exact hoC.2.2.2⟩
      obtain ⟨w, hw, hr, hon⟩ := p_vacate hi.1 hd hodC (c := c) hc
      have hlen : (sCh (sGap (sDead ρ m) c)).length = (sCh ρ).length - 1 := by
        show ((sCh ρ).eraseIdx c).length = _
        rw [List.length_eraseIdx, if_pos hc]
      obtain ⟨t, ht, htr, hton⟩ := p_killL hi ha hn c (by omega) 13 zFU 0 1 (sGap (sDead ρ m) c) w (by omega) (by omega) (by unfold zFU; omega) (CA_fr hE (fun a h1 h2 => (hon a (by omega)).trans (hdon a (by omega)))) hr hog
      refine ⟨t, ?_, htr, onlyR_tr hdon (onlyR_tr hon hton)⟩
      rw [oI_some, hw, zbindv_some]
      refine ht.trans ?_
      rw [sGap_sc ρ m c (k := 3) (by decide)]
theorem p_tell {i : Nat} (hi : rowAt i) {α : sA} (ha : okA α) {n : Nat} (hn : n ≤ 13) {v : zV} {ρ : sR} (hE : pCA 3 v α) (h : RC i v ρ) (ho : okW α n ρ) : ∃ w, fX2_tellDeaths 50 i v = some w ∧ RC i w (sTell α ρ) ∧ onlyR i v w := by
  have hM := ha.1.2.1
  have hD := ha.1.2.2.2.2.2.1
  have h37 := hi.2.1
  unfold fX2_tellDeaths sTell
  refine lpR (fun n j (_ : sR) v => fX2_tellDeaths_2 n 50 i (nI j) v) (fun k ρ => if α (30 + k) 0 = sSc ρ 0 then sKill α ρ (α (30 + k) 1) else ρ) (α 0 4) (fun _ ρ w => RC i w ρ ∧ okW α n ρ ∧ onlyR i v w) (fun ρ w => RC i w ρ ∧ onlyR i v w) (fun n1 s w hK => ?_) (fun n1 j s w hj hK => ?_) (α 0 4) zFU 0 ρ v (Nat.zero_add _) (by unfold zFU; omega) ⟨h, ho, onlyR_rf i v⟩
  · refine ⟨w, ?_, hK.1, hK.2.2⟩
    show fX2_tellDeaths_2 (n1 + 1) 50 i (nI (α 0 4)) w = some w
    rw [fX2_tellDeaths_2]
    dsimp only
    rw [rf_50_0, hK.2.2 3 (by omega), hE.1.2.2.2.2.1, if_pos (Int32.le_refl _)]
  · obtain ⟨hR, hoW, hon⟩ := hK
    have hEw : pCA 3 w α := CA_fr hE (fun a h1 h2 => hon a (by omega))
    obtain ⟨g1, g2, g3⟩ := ha.2.2.2.2.2.2.1 j hj
    have hys := hoW.2.2.2.2.2.1
    show ∃ u, fX2_tellDeaths_2 (n1 + 1) 50 i (nI j) w = fX2_tellDeaths_2 n1 50 i (nI (j + 1)) u ∧ _
    rw [fX2_tellDeaths_2]
    dsimp only
    rw [rf_50_0, hEw.1.2.2.2.2.1, if_neg (nI_ge hj (by omega)), rf_3_11, p_get (by rw [ln_8]; omega), zbind_some, (hEw.2.2.2.2.2.1 j hj).1, hR.1.1, nI_1]
    by_cases e : α (30 + j) 0 = sSc s 0
    · rw [if_pos (congrArg nI e), if_pos e, rf_3_12, p_get (by rw [ln_9]; omega), zbind_some, (hEw.2.2.2.2.2.1 j hj).2]
      obtain ⟨u, hu, hur, huon⟩ := p_kill hi ha hn hEw hR hoW g3
      rw [hu, zbind_some]
      exact ⟨u, rfl, hur, okW_kill hoW g3, onlyR_tr hon huon⟩
    · rw [if_neg (fun q => e ((nI_eq (by omega) (by omega)).mp q)), if_neg e]
      exact ⟨w, rfl, hR, hoW, hon⟩
theorem RC_year {i : Nat} {v : zV} {ρ : sR} (h : RC i v ρ) (hy : sSc ρ 0 < 100000) : RC i (zup v i 0 (nI (sSc ρ 0 + 1))) (rUpAs (rUpSc ρ (sUp (sSc ρ) 0 (sSc ρ 0 + 1))) (fun _ => 0)) := by
  obtain ⟨⟨h0, h1, h2, h3, h4, h5, h6, y, hy1, h7⟩, hch, hst, hwt, hsn, has⟩ := h
  have e0 : ∀ a, a ≠ i → zup v i 0 (nI (sSc ρ 0 + 1)) a = v a := fun a ha => p_up_a v _ _ ha
  have en : ∀ k, k ≠ 0 → zup v i 0 (nI (sSc ρ 0 + 1)) i k = v i k := fun k hk => p_up_n v _ (Or.inr hk)
  refine ⟨⟨?_, ?_, ?_, ?_, ?_, ?_, ?_, y, ?_, ?_⟩, fun k hk => ?_, fun k hk => ?_, fun k hk => ?_, fun k hk => ?_, fun k hk => ?_⟩
  · rw [p_up_s]
    show _ = nI (sUp (sSc ρ) 0 (sSc ρ 0 + 1) 0)
    rw [sUp_s]
  · rw [en 1 (by decide)]; exact h1
  · rw [en 2 (by decide)]; exact h2
  · rw [en 3 (by decide)]; exact h3
  · rw [en 4 (by decide)]; exact h4
  · rw [en 5 (by decide)]; exact h5
  · rw [en 6 (by decide)]; exact h6
  · show y ≤ sUp (sSc ρ) 0 (sSc ρ 0 + 1) 0
    rw [sUp_s]; omega
  · rw [en 7 (by decide)]; exact h7
  · rw [e0 (i + 1) (by omega)]; exact hch k hk
  · rw [e0 (i + 2) (by omega)]; exact hst k hk
  · rw [e0 (i + 3) (by omega)]; exact hwt k hk
  · rw [e0 (i + 4) (by omega)]; exact hsn k hk
  · rw [en 7 (by decide), p_up_s, h7, if_neg (fun q => by have := (nI_eq (by omega) (by omega)).mp q; omega)]
    rfl
theorem p_settleL {i : Nat} (hi : rowAt i) {α : sA} (ha : okA α) {v : zV} {ρ : sR} (hE : pCA 3 v α) (h : RC i v ρ) (hoC : okC ρ) (x : Int32) : ∃ w, fX2_settle_69 zFU 50 i x 0 v = some (x, w) ∧ RC i w (sAge α ρ) ∧ onlyR i v w := by
  have hM := ha.1.2.1
  have h37 := hi.2.1
  have := lpR (fun n j (_ : Nat → Nat) v => fX2_settle_69 n 50 i x (nI j) v) (sWaitS ρ) (α 0 1) (fun _ f w => RC i w (rUpWt ρ f) ∧ onlyR i v w) (fun f r => r.1 = x ∧ RC i r.2 (rUpAs (rUpSc (rUpWt ρ f) (sUp (sSc ρ) 0 (sSc ρ 0 + 1))) (fun _ => 0)) ∧ onlyR i v r.2) (fun n1 f w hK => ?_) (fun n1 j f w hj hK => ?_) (α 0 1) zFU 0 (sWt ρ) v (Nat.zero_add _) (by unfold zFU; omega) ⟨h, onlyR_rf i v⟩
  · obtain ⟨⟨r1, r2⟩, h1, h2, h3, h4⟩ := this
    subst h2
    exact ⟨r2, h1, h3, h4⟩
  · obtain ⟨hR, hon⟩ := hK
    refine ⟨(x, zup w i 0 (nI (sSc ρ 0 + 1))), ?_, rfl, RC_year hR hoC.2.2.2, onlyR_tr hon (onlyR_up w 0 _ (by omega) (by omega))⟩
    show fX2_settle_69 (n1 + 1) 50 i x (nI (α 0 1)) w = _
    rw [fX2_settle_69]
    dsimp only
    rw [rf_50_0, hon 3 (by omega), hE.1.2.1, if_pos (Int32.le_refl _), zlet_eq, hR.1.1, nI_1]
    rfl
  · obtain ⟨hR, hon⟩ := hK
    show ∃ u, fX2_settle_69 (n1 + 1) 50 i x (nI j) w = fX2_settle_69 n1 50 i x (nI (j + 1)) u ∧ _
    rw [fX2_settle_69]
    dsimp only
    have hw := p_isWaiting hi.1 hR (ρ := rUpWt ρ f) hoC (m := j) (by omega)
    rw [rf_50_0, hon 3 (by omega), hE.1.2.1, if_neg (nI_ge hj (by omega)), hw]
    simp only [zbind_some, i_0, i_1, zb_eq, nI_add]
    unfold sWaitS
    have e : sSt (rUpWt ρ f) j = sSt ρ j := rfl
    rw [e]
    by_cases hc : sSt ρ j = 0
    · rw [if_neg (fun q => q hc), if_pos hc, hi.1.2.2.1, p_get (by rw [hi.1.2.2.2.2.2.2.2.1]; omega), zbind_some, hR.2.2.2.1 j (by omega), nI_add, p_set (by rw [hi.1.2.2.2.2.2.2.2.1]; omega), zbindv_some]
      exact ⟨_, rfl, RC_wt hR _, onlyR_tr hon (onlyR_up w j _ (by omega) (by omega))⟩
    · rw [if_pos hc, if_neg hc]
      exact ⟨w, rfl, hR, hon⟩
theorem okB_C {α : sA} (ha : okA α) {n b : Nat} (hn : n ≤ 13) {ρ : sR} (h : okB α n b ρ) : okC ρ := ⟨by have := h.1; omega, fun m hm => by
    have h1 := (h.2.2.1 m).mpr hm
    have := ha.1.2.1
    rcases Nat.lt_or_ge m (α 0 1) with h2 | h2
    · omega
    · have := (h.2.2.2.2.1 m h2).1
      omega, h.2.2.2.1, by have := h.2.2.2.2.2.1.2; omega⟩
theorem p_settle48 {i : Nat} (hi : rowAt i) {α : sA} (ha : okA α) {v : zV} {ρ : sR} (hE : pCA 3 v α) (h : RC i v ρ) {b : Nat} (ho : okB α (α 0 2 + 1) b ρ) (x : Int32) : ∃ w, fX2_settle_48 50 i x v = some (x, w) ∧ RC i w (sAge α (sFull α ρ)) ∧ onlyR i v w := by
  have h37 := hi.2.1
  have hC := ha.1.2.2.2.1
  have hoC := okB_C ha (show α 0 2 + 1 ≤ 13 by omega) ho
  have hoF := okB_C ha (show α 0 2 ≤ 13 by omega) (okB_full ha ho)
  have h13 := hoC.1
  unfold fX2_settle_48 
  unfold sFull at hoF ⊢
  rw [rf_50_0, hE.1.2.2.1, h.1.2.1]
  by_cases e : α 0 2 < (sCh ρ).length
  · rw [if_neg (nI_ge e (by omega)), if_pos e]
    rw [if_pos e] at hoF
    obtain ⟨w, hw, hr, hon⟩ := p_leave hi.1 h hoC (c := 0) (by omega)
    rw [show (0 : Int32) = nI 0 from rfl, hw, zbindv_some]
    obtain ⟨u, hu, hur, huon⟩ := p_settleL hi ha (CA_fr hE (fun a h1 h2 => hon a (by omega))) hr hoF x
    exact ⟨u, hu, hur, onlyR_tr hon huon⟩
  · rw [if_pos (nI_le (by omega) (by omega)), if_neg e]
    rw [if_neg e] at hoF
    exact p_settleL hi ha hE h hoF x
theorem p_settle {i : Nat} (hi : rowAt i) {α : sA} {l : sL} (ha : okA α) (hl : okL l) {v : zV} {ρ : sR} (hE : CE v α l) (h : RC i v ρ) (ho : okR α ρ) : ∃ w, fX2_settle 50 i v = some (oI (sSettle α l ρ).1, w) ∧ RC i w (sSettle α l ρ).2 ∧ onlyC i v w := by
  have h37 := hi.2.1
  have hC := ha.1.2.2.2.1
  have hM := ha.1.2.1
  have hn : α 0 2 ≤ 13 := by omega
  obtain ⟨w, hw, hwa, hws⟩ := p_scoreAll hi ha hl hE h hn ho
  have hEw : pCA 3 w α := CA_fr hE.1 (fun a h1 h2 => hwa a (by omega) (by omega) (by omega))
  have hRw := RC_sc51 hi h hwa
  have honw : onlyC i v w := fun a _ h1 h2 h3 => hwa a h1 h2 h3
  unfold fX2_settle
  rw [hw, zbindv_some, p_choose hi ha hEw hRw hn ho _ hws, zbind_some]
  show ∃ u, _ = some (oI (sChoose α ρ (sScore α l ρ)), u) ∧ RC i u (sAfter α ρ (sChoose α ρ (sScore α l ρ))) ∧ onlyC i v u
  generalize ho2 : sChoose α ρ (sScore α l ρ) = o
  have hoo : ∀ m, o = some m → m < α 0 1 ∧ sSt ρ m = 0 := fun m hm => sChoose_ok (ho2.trans hm)
  have hB := okB_take ho hoo
  unfold sAfter
  cases o with
  | none =>
    rw [oI_none, if_pos (show -nI 1 = (-1 : Int32) from rfl), zlet_eq, hRw.1.2.2.1, nI_1]
    have hr2 := RC_sc hRw (k := 2) (j := 1) (Or.inl ⟨rfl, rfl⟩) (sSc ρ 1 + 1)
    obtain ⟨u, hu, hur, huon⟩ := p_settle48 hi ha (CA_fr hEw (fun a h1 h2 => p_up_a _ _ _ (by omega))) hr2 hB (-nI 1)
    exact ⟨u, hu, hur, onlyC_tr honw (onlyC_tr (onlyR_C (onlyR_up w 2 _ (by omega) (by omega))) (onlyR_C huon))⟩
  | some m =>
    obtain ⟨hm, hm0⟩ := hoo m rfl
    rw [oI_some, if_neg (fun q => by rw [show (-1 : Int32) = -nI 1 from rfl, ng_eq (by omega) (by decide) (by decide)] at q; exact q), zlet_eq, hRw.1.2.2.2.1, nI_1]
    have hr2 := RC_sc hRw (k := 3) (j := 2) (Or.inr (Or.inl ⟨rfl, rfl⟩)) (sSc ρ 2 + 1)
    have hlen : (sCh ρ).length < 13 := by have := ho.1; omega
    obtain ⟨t, ht, htr, hton⟩ := p_sitDown hi.1 hr2 (m := m) hlen (by omega) (sSc ρ 0)
    have e0 : zup w i 3 (nI (sSc ρ 2 + 1)) i 0 = nI (sSc ρ 0) := by rw [p_up_n _ _ (Or.inr (by decide))]; exact hRw.1.1
    rw [e0, ht, zbindv_some]
    obtain ⟨u, hu, hur, huon⟩ := p_settle48 hi ha (CA_fr hEw (fun a h1 h2 => (hton a (by omega)).trans (p_up_a _ _ _ (by omega)))) htr hB (nI m)
    exact ⟨u, hu, hur, onlyC_tr honw (onlyC_tr (onlyR_C (onlyR_up w 3 _ (by omega) (by omega))) (onlyC_tr (onlyR_C hton) (onlyR_C huon)))⟩
theorem p_pass {i : Nat} (hi : rowAt i) {α : sA} {l : sL} (ha : okA α) (hl : okL l) {v : zV} {ρ : sR} (hE : CE v α l) (h : RC i v ρ) (ho : okR α ρ) : ∃ w, fX2_pass 50 i v = some (oI (sPass α l ρ).1, w) ∧ RC i w (sPass α l ρ).2 ∧ onlyC i v w := by
  have hC := ha.1.2.2.2.1
  obtain ⟨w, hw, hr, hon⟩ := p_tell hi ha (show α 0 2 ≤ 13 by omega) hE.1 h ho
  obtain ⟨u, hu, hur, huon⟩ := p_settle hi ha hl (CE_C hi hE (onlyR_C hon)) hr (sTell_ok ha ho).1
  refine ⟨u, ?_, hur, onlyC_tr (onlyR_C hon) huon⟩
  unfold fX2_pass
  rw [hw, zbindv_some, hu]
  rfl
end
