/-! LAW, the call -/
section
theorem l213 : zlen 213 = 160 := by decide +kernel
theorem rx_28 : zrf 116 28 = 213 := by decide +kernel
theorem tLw_ok {L : List Nat} (hL : L.length ≤ 150) {p q : Nat} (hp : p ≤ L.length) (h : (tLw L (.inl p)).2 = .inl q) : okL (tLw L (.inl p)).1 ∧ 0 < (tLw L (.inl p)).1.length ∧ (tSm L 20 0 (.inl p)).2 = .inl q := by
  have hg := sGd_sm (L := L) 20 0 (by decide) (by decide)
  unfold tLw at h ⊢
  dsimp only at h ⊢
  cases e : (tSm L 20 0 (.inl p)).2 with
  | inr f => rw [e] at h; cases h
  | inl q1 =>
    rw [e] at h
    dsimp only at h
    by_cases c : q1 < L.length
    · rw [if_pos c] at h; cases h
    · rw [if_neg c] at h
      cases h
      obtain ⟨a1, a2, a3, a4⟩ := hg.2 p q hp e
      have hw := a4 [] 0 rfl
      rw [List.append_nil] at hw
      refine ⟨⟨hw, by omega⟩, ?_, rfl⟩
      cases hP : (tSm L 20 0 (.inl p)).1 with
      | nil =>
        rw [hP] at hw
        cases hw
      | cons x t => exact Nat.succ_pos _
theorem p_lawRead {L : List Nat} (hL : L.length ≤ 150) {τ : rdE} {v : zV} (h : rdC L τ v) : ∃ w, fX5_read 27 1 v = some w ∧ rdC L (tLw L τ).2 w ∧ (∀ q, (tLw L τ).2 = .inl q → dLw (tLw L τ).1 w) ∧ fr5 v w := by
  have h0 : rdC L τ (zup v 27 3 0) := rdC_fr h (p_up_a _ _ _ (by decide)) (p_up_a _ _ _ (by decide))
  have hd0 : dLw [] (zup v 27 3 0) := ⟨p_up_s _ _ _ _, fun k hk => absurd hk (Nat.not_lt_zero k)⟩
  obtain ⟨u, hu, uR, ud, uf⟩ := p_sumD hL 20 0 (by decide) (by decide) [] τ (zup v 27 3 0) h0 (fun p _ => ⟨hd0, Nat.zero_le _⟩)
  obtain ⟨t, ht, tR, tX, ta, tk⟩ := p_look uR
  have tf := lk_fr ta tk
  have f0 : fr5 v (zup v 27 3 0) := ⟨fun a _ g _ => p_up_a _ _ _ g, fun k _ _ _ => by rw [p_up_a _ _ _ (show (1 : Nat) ≠ 27 by decide)]⟩
  unfold fX5_read
  rw [zlet_eq, show fX5_readSumD 20 27 1 0 (zup v 27 3 0) = fX5_readSumD 20 27 1 (nI 0) (zup v 27 3 0) from rfl, hu, zbindv_some, ht, zbind_some]
  unfold tLw
  dsimp only
  cases e : (tSm L 20 0 τ).2 with
  | inr f =>
    rw [e] at tR
    rw [if_pos (show tLk L (.inr f) = (-1 : Int32) from rfl)]
    exact ⟨t, rfl, tR, fun q hq => (by cases hq), fr5_tr f0 (fr5_tr uf (fr5_1 tf))⟩
  | inl p =>
    rw [e] at tR tX
    dsimp only
    by_cases c : p < L.length
    · have hb : bA L p < 256 := (tR.1.2.2 p c).2
      obtain ⟨w, hw, wR, wf⟩ := p_misfit tR (pl := p) tX (fun q hq => by cases hq; rfl)
      rw [if_neg (show ¬ tLk L (.inl p) = (-1 : Int32) from fun q => by
        have q2 : nI (bA L p) = -nI 1 := (if_pos c : bQt L p = nI (bA L p)).symm.trans q
        have := (ng_eq (a := bA L p) (k := 1) (by omega) (by decide) (by decide))
        rw [this] at q2
        exact q2), if_pos c]
      exact ⟨w, by rw [hw, zbindv_some], wR, fun q hq => (by cases hq), fr5_tr f0 (fr5_tr uf (fr5_1 (fr1_tr tf wf)))⟩
    · rw [if_pos (show tLk L (.inl p) = (-1 : Int32) from if_neg c), if_neg c]
      exact ⟨t, rfl, tR, fun q hq => dLw_1 (ud p e) tf, fr5_tr f0 (fr5_tr uf (fr5_1 tf))⟩
theorem l24 : zlen 24 = 150 := by decide +kernel
theorem rr_23_0 : zrf 23 0 = 24 := by decide +kernel
theorem p_lawCopy {P : sL} {v : zV} (h : dLw P v) (hP : P.length ≤ 150) : ∃ w, fX5_copy 23 27 v = some w ∧ pCL w P ∧ ∀ a, a ≠ 23 → a ≠ 24 → w a = v a := by
  refine ⟨zcp (zup v 23 3 (v 27 3)) 28 24 0 0 150, ?_, ⟨?_, fun k hk => ?_⟩, fun a g1 g2 => ?_⟩
  · unfold fX5_copy
    rw [zlet_eq, rr_27_0, rr_23_0, show zcpk 28 24 (0 : Int32) (0 : Int32) (150 : Int32) (zlet (zcp (zup v 23 3 (v 27 3)) 28 24 (Int32.toNatClampNeg 0) (Int32.toNatClampNeg 0) (Int32.toNatClampNeg 150)) fun v_2 => some v_2) = _ from zcpk_0 (n := 150) (by rw [l28]; exact Nat.le_refl _) (by rw [l24]; exact Nat.le_refl _) (by decide) _, zlet_eq]
    rfl
  · rw [zc_n (by decide), p_up_s]
    exact h.1
  · rw [zc_s (by omega), p_up_a _ _ _ (by decide)]
    exact h.2 k hk
  · rw [zc_n g2, p_up_a _ _ _ g1]
theorem case_2 {v : zV} (hInv : sInv v) (p1 : Int32) : ∃ w, fLc_2 p1 v = some w ∧ sInv w := by
  obtain ⟨α, l, β, ρ, ρb, im, tp, pl, r0, r1, hs, hI, hM⟩ := hInv
  have ha := hs.1
  have hl := hs.2.1
  have hbk := hs.2.2.1
  have hQ : CQ v α l ρ := ⟨hI.1, hI.2.2.1⟩
  have hO : OKs α l ρ := ⟨ha, hl, hs.2.2.2.1.1, hs.2.2.2.1.2⟩
  have hi := hs.2.2.2.2.2.2.1.1
  have hy := hs.2.2.2.1.2
  have oC : okC ρ := okW_C ha (ok_13 ha) hO.2.2.1
  have q1 : v 3 1 = nI (α 0 1) := hI.1.1.1.2.1
  have q0 : v 3 0 = nI (α 0 0) := hI.1.1.1.1
  have M16 : α 0 1 ≤ 16 := ha.1.2.1
  have Q6 : α 0 0 ≤ 6 := ha.1.1
  show ∃ w, zTail (zcatch (fX9_law 0 p1 v) 603 none (some 1)) (fX10_law 116 p1) = some w ∧ sInv w
  have h600 := hs.2.2.2.2.2.2.2.1
  have hby := hs.2.2.2.2.2.2.2.2
  have hT : tpC tp v := hI.2.2.2.2.2.1
  by_cases h0 : inB p1 0 (min 150 tp.length)
  case neg =>
    exact tl_N (z1 := 1) (y := 1) (z := 0) hs hI hM (by decide) (by unfold fX9_law; rw [show (150 : Int32) = nI 150 from rfl, p_openN hT h600 (by decide) h0, zbx_2]) (by decide) ⟨fun h => absurd h (by decide), fun _ => rfl⟩ (fun v2 b2 => by
      obtain ⟨g0, g1, g2, gQ, gD, gE⟩ := qM0 hs b2
      have u1 : (zup v2 116 0 0) 116 1 = nI tp.length := by rw [p_up_n _ _ (Or.inr (by decide))]; exact b2.2.2.2.2.2.2.2.2.1.1
      refine ⟨_, ?_, rfM_up v2 1 1⟩
      unfold fX10_law fX10_law_30
      rw [zlet_eq, u1]
      by_cases h2 : inB p1 0 tp.length
      · rw [pinY (x := p1) (lo := 0) (hi := nI tp.length) (a := 0) (b := tp.length) (by decide) (by omega) rfl rfl h2, zbind_some, if_neg (show ¬ (1 : Int32) = 0 by decide), if_neg (show ¬ p1 ≤ 150 from fun z => h0 ((in_cap h600).mpr ⟨h2, z⟩)), pb1_11 g0, zbind_some, if_neg (show ¬ (1 : Int32) = 0 by decide)]
        rfl
      · rw [pinN (x := p1) (lo := 0) (hi := nI tp.length) (a := 0) (b := tp.length) (by decide) (by omega) rfl rfl h2, zbind_some, if_pos (show (0 : Int32) = 0 from rfl), pb1_11 g0, zbind_some, if_neg (show ¬ (1 : Int32) = 0 by decide)]
        rfl)
  have h2 := (in_cap h600).mp h0
  obtain ⟨n, -, nmin, rfl⟩ := id h0
  obtain ⟨n150, nlen⟩ := Nat.le_min.mp nmin
  have hL : (tp.take n).length ≤ 150 := by rw [len_take nlen]; exact n150
  obtain ⟨u, hu, uR, u11, ua⟩ := p_openY hT hby h600 nlen n150 (by decide)
  obtain ⟨t, ht, tR, td, tf⟩ := p_lawRead hL uR
  have ta : ∀ a, a ≠ 1 → a ≠ 27 → a ≠ 28 → t a = v a := fun a q1 q2 q3 => (tf.1 a q1 q2 q3).trans (ua a q1)
  have t11 : t 1 1 = nI 0 := by rw [tf.2 1 (by decide) (by decide) (by decide)]; exact u11
  have hp0 := (rdC_np uR).1
  have hcl : fX9_law 0 (nI n) v = if t 1 2 = 0 then zbindv (fX5_copy 23 27 t) fun v_4 => zbindv (fX7_copy 43 37 v_4) fun v_5 => some (0, (1 : Int32), v_5) else some (0, t 1 2 - 10, t) := by
    unfold fX9_law
    rw [show (150 : Int32) = nI 150 from rfl, hu, zbx_0, rf_0_4, rf_0_0, ht, zbindv_some, rf_0_3, rf_0_7, rf_0_8]
  -- the reference
  have Lr : ∀ v2, pIM α l β ρ ρb im tp pl r0 r1 v2 → ∃ y, fX10_law 116 (nI n) v2 = fX10_law_85 116 y ∧ rdM (tp.take n) (tLw (tp.take n) (.inl (tSk (tp.take n) 0))).2 y ∧ (∀ q, (tLw (tp.take n) (.inl (tSk (tp.take n) 0))).2 = .inl q → eLw (tLw (tp.take n) (.inl (tSk (tp.take n) 0))).1 y) ∧ y 116 0 = nI 0 ∧ y 116 1 = nI 0 ∧ (∀ a, a ≠ 116 → (a < 375 ∨ 534 < a) → y a = v2 a) ∧ ∀ k, 8 < k → k ≠ 27 → y 116 k = v2 116 k := by
    intro v2 b2
    obtain ⟨g0, g1, g2, gQ, gD, gE⟩ := qM0 hs b2
    have u1 : (zup v2 116 0 0) 116 1 = nI tp.length := by rw [p_up_n _ _ (Or.inr (by decide))]; exact b2.2.2.2.2.2.2.2.2.1.1
    have uT : tpM tp (zup v2 116 0 0) := ⟨u1, fun k hk => by rw [p_up_a _ _ _ (by decide)]; exact b2.2.2.2.2.2.2.2.2.1.2 k hk⟩
    obtain ⟨y, hy, yR, yX, y1, -, y8, ya, yk⟩ := p_starts uT hby h600 nlen
    have za : ∀ a, a ≠ 116 → zup y 116 27 0 a = y a := fun a g => p_up_a _ _ _ g
    have zk : ∀ k, k ≠ 27 → zup y 116 27 0 116 k = y 116 k := fun k g => p_up_n _ _ (Or.inr g)
    have z27 : zup y 116 27 0 116 27 = nI 0 := p_up_s _ _ _ _
    have zR : rdM (tp.take n) (.inl (tSk (tp.take n) 0)) (zup y 116 27 0) := by
      obtain ⟨⟨k1, k2, k3⟩, p0, k4, k5, k6, k7, k8⟩ := yR
      exact ⟨⟨k1, by rw [zk 2 (by decide)]; exact k2, fun i hi => by rw [za 117 (by decide)]; exact k3 i hi⟩, p0, k4, by rw [zk 4 (by decide)]; exact k5, by rw [zk 5 (by decide)]; exact k6, by rw [zk 6 (by decide)]; exact k7, k8⟩
    have hz : fX10_law 116 (nI n) v2 = zbindv (fX10_sumD 20 116 (zup y 116 27 0)) fun v_5 => zbindv (fX10_blanks 116 v_5) fun v_6 => if (v_6 116 5) = (0 : Int32) then (if (v_6 116 2) ≤ (v_6 116 4) then fX10_law_85 116 v_6 else zbindv (fX10_wrong 116 (1 : Int32) (v_6 116 4) v_6) fun v_7 => fX10_law_85 116 v_7) else fX10_law_85 116 v_6 := by
      unfold fX10_law fX10_law_30
      rw [zlet_eq, u1, pinY (x := nI n) (lo := 0) (hi := nI tp.length) (a := 0) (b := tp.length) (by decide) (by omega) rfl rfl h2.1, zbind_some, if_neg (show ¬ (1 : Int32) = 0 by decide), if_pos h2.2, pb0 g0, zbind_some, if_pos (show (0 : Int32) = 0 from rfl), hy, zbindv_some, zlet_eq]
    have y8' : zup y 116 27 0 116 8 = nI 0 := (zk 8 (by decide)).trans y8
    have y0' : zup y 116 27 0 116 0 = nI 0 := by rw [zk 0 (by decide), yk 0 (by decide) (by decide) (by decide) (by decide) (by decide) (by decide) (by decide)]; exact g0
    have y1' : zup y 116 27 0 116 1 = nI 0 := (zk 1 (by decide)).trans y1
    have ya' : ∀ a, a ≠ 116 → zup y 116 27 0 a = v2 a := fun a g => (za a g).trans ((ya a g).trans (p_up_a _ _ _ g))
    have yk' : ∀ k, 8 < k → k ≠ 27 → zup y 116 27 0 116 k = v2 116 k := fun k q1 q2 => (zk k q2).trans ((yk k (by omega) (by omega) (by omega) (by omega) (by omega) (by omega) (by omega)).trans (p_up_n _ _ (Or.inr (by omega))))
    generalize zup y 116 27 0 = z at z27 zR hz y8' y0' y1' ya' yk'
    obtain ⟨x, hx, xR, xd, xf⟩ := p_mSumD hL 20 0 (by decide) (by decide) [] _ z zR (fun p _ => ⟨⟨z27, fun k hk => absurd hk (Nat.not_lt_zero k)⟩, Nat.zero_le _, y8'⟩)
    obtain ⟨s, hs2, sR, sX, sa, sk⟩ := p_blanks xR
    have sf := mk_fr sa sk
    have fa : ∀ a, a ≠ 116 → (a < 375 ∨ 534 < a) → s a = v2 a := fun a q1 q2 => (sa a q1).trans ((xf.1 a q1 q2).trans (ya' a q1))
    have fk : ∀ k, k ≠ 4 → k ≠ 5 → k ≠ 6 → k ≠ 8 → k ≠ 27 → s 116 k = z 116 k := fun k q1 q2 q3 q4 q5 => (sk k q1).trans (xf.2 k q1 q2 q3 q4 q5)
    rw [hz, hx, zbindv_some, hs2, zbindv_some]
    unfold tLw
    dsimp only
    cases e : (tSm (tp.take n) 20 0 (.inl (tSk (tp.take n) 0))).2 with
    | inr f =>
      rw [e] at sR
      rw [if_neg (rdM_n sR)]
      exact ⟨s, rfl, sR, fun q hq => (by cases hq), (fk 0 (by decide) (by decide) (by decide) (by decide) (by decide)).trans y0', (fk 1 (by decide) (by decide) (by decide) (by decide) (by decide)).trans y1', fa, fun k q1 q2 => (fk k (by omega) (by omega) (by omega) (by omega) q2).trans (yk' k q1 q2)⟩
    | inl p =>
      rw [e] at sR sX
      have sL := sR.1.1
      have hpn := (rdM_np sR).1
      rw [rdM_0 sR, if_pos (show nI 0 = 0 from rfl), sR.1.2.1, sX p rfl]
      dsimp only
      by_cases c : p < (tp.take n).length
      · obtain ⟨w, hw, wR, wf⟩ := p_wrong sR (k := 1) (pl := p) (by decide) (y := nI p) (fun _ _ => rfl)
        rw [if_neg (leN (by omega) (by omega) (by omega)), show (1 : Int32) = nI 1 from rfl, hw, zbindv_some, if_pos c]
        exact ⟨w, rfl, wR, fun q hq => (by cases hq), (wf.2 0 (by decide) (by decide) (by decide)).trans ((fk 0 (by decide) (by decide) (by decide) (by decide) (by decide)).trans y0'), (wf.2 1 (by decide) (by decide) (by decide)).trans ((fk 1 (by decide) (by decide) (by decide) (by decide) (by decide)).trans y1'), fun a q1 q2 => (wf.1 a q1).trans (fa a q1 q2), fun k q1 q2 => (wf.2 k (by omega) (by omega) (by omega)).trans ((fk k (by omega) (by omega) (by omega) (by omega) q2).trans (yk' k q1 q2))⟩
      · rw [if_pos (leY (by omega) (by omega) (by omega)), if_neg c]
        exact ⟨s, rfl, sR, fun q hq => eLw_2 (xd p e).1 sf, (fk 0 (by decide) (by decide) (by decide) (by decide) (by decide)).trans y0', (fk 1 (by decide) (by decide) (by decide) (by decide) (by decide)).trans y1', fa, fun k q1 q2 => (fk k (by omega) (by omega) (by omega) (by omega) q2).trans (yk' k q1 q2)⟩
  cases hτ : (tLw (tp.take n) (.inl (tSk (tp.take n) 0))).2 with
  | inr f =>
    rw [hτ] at tR
    have hs' : okS α l β ρ ρb im [] := ⟨ha, hl, hbk, hs.2.2.2.1, hs.2.2.2.2.1, hs.2.2.2.2.2.1, hs.2.2.2.2.2.2.1, Nat.zero_le _, fun k hk => absurd hk (Nat.not_lt_zero k)⟩
    have t2 : t 1 2 = nI f.1 ∧ t 1 3 = nI f.2 ∧ 1 ≤ f.1 ∧ f.1 ≤ 4 := by obtain ⟨-, p0, -, -, k1, k2, k3, k4⟩ := tR; exact ⟨k1, k2, k3, k4⟩
    refine tl_G hs hs' hM (v1 := t) (r := nI f.1 - 10) (pl' := nI f.2) (r0' := r0) (r1' := r1) ?_ (fun a g1 g2 => ta a (by omega) (by omega) (by omega)) (IC_text hi hI (fun a g1 g2 g3 g4 g5 => ta a g2 (by omega) (by omega)) t11 t2.2.1) (fun v2 b2 => ?_)
    · rw [hcl, t2.1, if_neg (show ¬ nI f.1 = 0 from fun z => by have := (nI_is0 (by omega)).mp z; omega)]
    · obtain ⟨x, hx, xR, -, x0, x1, xa, xk⟩ := Lr v2 b2
      rw [hτ] at xR
      refine ⟨zup x 116 3 (nI f.2), ?_, (p_up_n _ _ (Or.inr (by decide))).trans x0, fun a g => (p_up_a _ _ _ (by omega)).trans (xa a (by omega) (by omega)), IM_text ha hl hbk.1 hi b2 (fun a q1 q2 q3 q4 q5 q6 q7 q8 q9 q10 q11 => (p_up_a _ _ _ (by omega)).trans (xa a (by omega) (by omega))) (fun k q0 q1 q2 q3 q4 q5 q6 q7 q8 q25 q27 => (p_up_n _ _ (Or.inr q3)).trans (xk k (by omega) q27)) ((p_up_n _ _ (Or.inr (by decide))).trans x1) (p_up_s _ _ _ _)⟩
      rw [hx]
      unfold fX10_law_85
      rw [if_neg (rdM_n xR), p_ends xR, zbind_some]
  | inl q =>
    rw [hτ] at tR
    obtain ⟨okP, posP, -⟩ := tLw_ok hL hp0 hτ
    have hd := td q hτ
    have t2 : t 1 2 = nI 0 ∧ t 1 3 = -nI 1 := by obtain ⟨-, p0, -, -, k1, k2, -⟩ := tR; exact ⟨k1, k2⟩
    have hE := fun v2 b2 => Lr v2 b2
    generalize hP : (tLw (tp.take n) (.inl (tSk (tp.take n) 0))).1 = P at okP posP hd hE
    obtain ⟨s, hsC, sCL, sa⟩ := p_lawCopy hd okP.2
    obtain ⟨s2, hs2, s2R, s2o⟩ := p_rowCopy r43.1 r37.1 (Or.inl (by decide)) (RC_fr hI.2.2.1 (fun a g1 g2 => (sa a (by omega) (by omega)).trans (ta a (by omega) (by omega) (by omega)))) oC.1
    have hs' : okS α P β ρ ρ im [] := ⟨ha, okP, hbk, hs.2.2.2.1, hs.2.2.2.1.1, ⟨0, rfl, rfl, sFrs_r hs rfl⟩, hs.2.2.2.2.2.2.1, Nat.zero_le _, fun k hk => absurd hk (Nat.not_lt_zero k)⟩
    have fa : ∀ a, a ≠ 1 → (a < 23 ∨ 24 < a) → (a < 27 ∨ 28 < a) → (a < 43 ∨ 48 < a) → s2 a = v a := fun a q1 q2 q3 q4 => (s2o a (by omega)).trans ((sa a (by omega) (by omega)).trans (ta a q1 (by omega) (by omega)))
    have s1 : s2 1 = t 1 := (s2o 1 (by omega)).trans (sa 1 (by decide) (by decide))
    refine tl_G hs hs' hM (v1 := s2) (r := 1) (pl' := -1) (r0' := r0) (r1' := r1) ?_ (fun a g1 g2 => fa a (by omega) (by omega) (by omega) (by omega)) ?_ (fun v2 b2 => ?_)
    · rw [hcl, t2.1, if_pos (show nI 0 = 0 from rfl), hsC, zbindv_some, hs2, zbindv_some]
    · obtain ⟨a1, a2, a3, a4, ⟨a5, a6⟩, -, -, a10, a11⟩ := hI
      have e0 := fa 0 (by decide) (by decide) (by decide) (by decide)
      exact ⟨⟨CA_fr a1.1 (fun a g1 g2 => fa a (by omega) (by omega) (by omega) (by omega)), CL_fr sCL (s2o 23 (by omega)) (s2o 24 (by omega))⟩, CB_fr a2 (fun a g1 g2 => fa a (by omega) (by omega) (by omega) (by omega)), RC_fr a3 (fun a g1 g2 => fa a (by omega) (by omega) (by omega) (by omega)), s2R, ⟨by rw [e0]; exact a5, fun k hk => RC_fr (a6 k hk) (fun a g1 g2 => fa a (by omega) (by omega) (by omega) (by omega))⟩, ⟨by rw [s1]; exact t11, fun k hk => absurd hk (Nat.not_lt_zero k)⟩, by rw [s1]; exact t2.2, by rw [e0]; exact a10, by rw [e0]; exact a11⟩
    · obtain ⟨x, hx, xR, xE, x0, x1, xa, xk⟩ := hE v2 b2
      rw [hτ] at xR
      have xE := xE q hτ
      have za : ∀ a, a ≠ 116 → zup (zup x 116 3 (-1)) 116 26 (nI P.length) a = x a := fun a g => by rw [p_up_a _ _ _ g, p_up_a _ _ _ g]
      have zk : ∀ k, k ≠ 3 → k ≠ 26 → zup (zup x 116 3 (-1)) 116 26 (nI P.length) 116 k = x 116 k := fun k g1 g2 => by rw [p_up_n _ _ (Or.inr g2), p_up_n _ _ (Or.inr g1)]
      have z3 : zup (zup x 116 3 (-1)) 116 26 (nI P.length) 116 3 = -1 := by rw [p_up_n _ _ (Or.inr (by decide)), p_up_s]
      have z26 : zup (zup x 116 3 (-1)) 116 26 (nI P.length) 116 26 = nI P.length := p_up_s _ _ _ _
      generalize hz : zup (zup x 116 3 (-1)) 116 26 (nI P.length) = z at za zk z3 z26
      have p150 := okP.2
      obtain ⟨w, hw, w1, w2⟩ := p_lays (s := 374) (t := 213) (W := 2) (N := 160) (by decide) (by rw [l374]; exact Nat.le_refl _) (by rw [l213]; exact Nat.le_refl _) (fun k hk => rfa_374 k hk) (fun k hk => rfa_213 k hk) (fun k hk => lna_374 k hk) (fun k hk => lna_213 k hk) (Or.inr (by decide)) (m := P.length) (by omega) z
      have wa : ∀ a, a ≠ 116 → (a < 214 ∨ 373 < a) → (a < 375 ∨ 534 < a) → w a = v2 a := fun a q1 q2 q3 => (w2 a (by omega)).trans ((za a q1).trans (xa a q1 q3))
      have w116 : w 116 = z 116 := w2 116 (by omega)
      have w7 : MR 567 w ρ := MR_fr b2.2.2.1 (wa 567 (by decide) (by decide) (by decide))
      obtain ⟨y, hy, y7, y8, y41, ya, yk⟩ := p_mSettles w7
      have fin : ∀ a, a ≠ 116 → a ≠ 568 → (a < 214 ∨ 373 < a) → (a < 375 ∨ 534 < a) → y a = v2 a := fun a q1 q2 q3 q4 => (ya a q1 q2).trans (wa a q1 q3 q4)
      have fik : ∀ k, k ≠ 41 → k ≠ 3 → k ≠ 26 → y 116 k = x 116 k := fun k q1 q2 q3 => (yk k q1).trans (by rw [w116, zk k q2 q3])
      refine ⟨y, ?_, (fik 0 (by decide) (by decide) (by decide)).trans x0, fun a g => fin a (by omega) (by omega) (by omega) (by omega), ?_⟩
      · rw [hx]
        unfold fX10_law_85
        have e27 : (zup x 116 3 (-1)) 116 27 = nI P.length := (p_up_n _ _ (Or.inr (by decide))).trans xE.1
        rw [rdM_0 xR, if_pos (show nI 0 = 0 from rfl), zlet_eq, e27, zlet_eq, hz, rx_29, rx_28, z26, hw, zbindv_some, hy, zbindv_some]
      · obtain ⟨c1, c2, c3, c4, c5, ⟨h44, h46, h47⟩, c6, ⟨c7, c8⟩, -, c11, c12, c13⟩ := b2
        have kk : ∀ k, 27 < k → k ≠ 41 → y 116 k = v2 116 k := fun k q1 q2 => (fik k q2 (by omega) (by omega)).trans (xk k (by omega) (by omega))
        refine ⟨⟨MA_fr c1.1 ha (fun a g1 g2 => fin a (by omega) (by omega) (by omega) (by omega)), Or.inr ⟨by rw [yk 26 (by decide), w116, z26], posP, fun k hk => ?_⟩⟩, MB_fr c2 hbk.1 (kk 40 (by decide) (by decide)) (fun a g1 g2 => fin a (by omega) (by omega) (by omega) (by omega)), y7, y8, MR_fr c5 (fin 569 (by decide) (by decide) (by decide) (by decide)), ⟨(kk 44 (by decide) (by decide)).trans h44, (kk 46 (by decide) (by decide)).trans h46, (kk 47 (by decide) (by decide)).trans h47⟩, by rw [y41, Nat.sub_self], ⟨(kk 42 (by decide) (by decide)).trans c7, fun k hk => MR_fr (c8 k hk) (fin (562 + k) (by omega) (by omega) (by omega) (by omega))⟩, ⟨(fik 1 (by decide) (by decide) (by decide)).trans x1, fun k hk => absurd hk (Nat.not_lt_zero k)⟩, by rw [yk 3 (by decide), w116, z3], by rw [fin 118 (by decide) (by decide) (by decide) (by decide)]; exact c12, by rw [fin 118 (by decide) (by decide) (by decide) (by decide)]; exact c13⟩
        have e1 := w1 k hk 0 (by decide)
        have e2 := w1 k hk 1 (by decide)
        have zz : z (375 + k) = x (375 + k) := za _ (by omega)
        rw [ya (214 + k) (by omega) (by omega), show 214 + k = 213 + 1 + k from rfl, e1, e2, show 374 + 1 + k = 375 + k from rfl, zz]
        exact xE.2 k hk
end
