/-! LAW: the reference reads it -/
section
def eLw (P : sL) (v : zV) : Prop := v 116 27 = nI P.length ∧ ∀ k, k < P.length → v (375 + k) 0 = nI (P.getD k (0, 0)).1 ∧ v (375 + k) 1 = nI (P.getD k (0, 0)).2
def fr6 (v w : zV) : Prop := (∀ a, a ≠ 116 → (a < 375 ∨ 534 < a) → w a = v a) ∧ ∀ k, k ≠ 4 → k ≠ 5 → k ≠ 6 → k ≠ 8 → k ≠ 27 → w 116 k = v 116 k
theorem fr6_tr {v w u : zV} (h1 : fr6 v w) (h2 : fr6 w u) : fr6 v u := ⟨fun a g1 g2 => (h2.1 a g1 g2).trans (h1.1 a g1 g2), fun k g1 g2 g3 g4 g5 => (h2.2 k g1 g2 g3 g4 g5).trans (h1.2 k g1 g2 g3 g4 g5)⟩
theorem fr6_2 {v w : zV} (h : fr2 v w) : fr6 v w := ⟨fun a g _ => h.1 a g, fun k g1 g2 g3 _ _ => h.2 k g1 g2 g3⟩
theorem eLw_2 {P : sL} {v w : zV} (h : eLw P v) (e : fr2 v w) : eLw P w := ⟨(e.2 27 (by decide) (by decide) (by decide)).trans h.1, fun k hk => by rw [e.1 (375 + k) (by omega)]; exact h.2 k hk⟩
theorem e8_2 {v w : zV} (e : fr2 v w) {o : Nat} (h : v 116 8 = nI o) : w 116 8 = nI o := (e.2 8 (by decide) (by decide) (by decide)).trans h
theorem rx_29 : zrf 116 29 = 374 := by decide +kernel
theorem l374 : zlen 374 = 160 := by decide +kernel
theorem p_notes {L : List Nat} {τ : rdE} {v : zV} (h : rdM L τ v) {P : sL} (hd : ∀ p, τ = .inl p → eLw P v ∧ P.length < 150) (a b : Nat) : ∃ w, fX10_notes 116 (nI a) (nI b) v = some w ∧ rdM L τ w ∧ (∀ p, τ = .inl p → eLw (P ++ [(a, b)]) w) ∧ fr6 v w ∧ w 116 8 = v 116 8 := by
  cases τ with
  | inr f =>
    refine ⟨v, ?_, h, fun p hp => (by cases hp), fr6_2 (fr2_rf v), rfl⟩
    unfold fX10_notes
    rw [if_neg (rdM_n h)]
  | inl p =>
    obtain ⟨⟨h1, h2⟩, h3⟩ := hd p rfl
    have r1 := rfa_374 P.length (by omega)
    have r2 := lna_374 P.length (by omega)
    have e27 : (zup (zup v (375 + P.length) 0 (nI a)) (375 + P.length) 1 (nI b)) 116 27 = nI P.length := by rw [p_up_a _ _ _ (by omega), p_up_a _ _ _ (by omega)]; exact h1
    have ea : ∀ c, c ≠ 116 → c ≠ 375 + P.length → (zup (zup (zup v (375 + P.length) 0 (nI a)) (375 + P.length) 1 (nI b)) 116 27 (nI (P.length + 1))) c = v c := fun c g1 g2 => by rw [p_up_a _ _ _ g1, p_up_a _ _ _ g2, p_up_a _ _ _ g2]
    have ek : ∀ k, k ≠ 27 → (zup (zup (zup v (375 + P.length) 0 (nI a)) (375 + P.length) 1 (nI b)) 116 27 (nI (P.length + 1))) 116 k = v 116 k := fun k g => by rw [p_up_n _ _ (Or.inr g), p_up_a _ _ _ (by omega), p_up_a _ _ _ (by omega)]
    have es : (zup (zup (zup v (375 + P.length) 0 (nI a)) (375 + P.length) 1 (nI b)) 116 27 (nI (P.length + 1))) 116 27 = nI (P.length + 1) := p_up_s _ _ _ _
    have e0 : (zup (zup (zup v (375 + P.length) 0 (nI a)) (375 + P.length) 1 (nI b)) 116 27 (nI (P.length + 1))) (375 + P.length) 0 = nI a := by rw [p_up_a _ _ _ (by omega), p_up_n _ _ (Or.inr (by decide)), p_up_s]
    have e1 : (zup (zup (zup v (375 + P.length) 0 (nI a)) (375 + P.length) 1 (nI b)) 116 27 (nI (P.length + 1))) (375 + P.length) 1 = nI b := by rw [p_up_a _ _ _ (by omega), p_up_s]
    have hz : fX10_notes 116 (nI a) (nI b) v = some (zup (zup (zup v (375 + P.length) 0 (nI a)) (375 + P.length) 1 (nI b)) 116 27 (nI (P.length + 1))) := by
      unfold fX10_notes
      have e27a : (zup v (375 + P.length) 0 (nI a)) 116 27 = nI P.length := by rw [p_up_a _ _ _ (by omega)]; exact h1
      rw [rdM_0 h, if_pos (show nI 0 = 0 from rfl)]
      simp (disch := omega) only [rx_29, l374, h1, zix_nI, nI_cl', r1, r2, zlet_eq, show (0 : Int32) = nI 0 from rfl, show (1 : Int32) = nI 1 from rfl, e27a, e27, nI_add]
    generalize (zup (zup (zup v (375 + P.length) 0 (nI a)) (375 + P.length) 1 (nI b)) 116 27 (nI (P.length + 1))) = w at ea ek es e0 e1 hz
    refine ⟨w, hz, ?_, fun p' _ => ⟨by rw [es, len_app], fun k hk => ?_⟩, ⟨fun c g1 g2 => ea c g1 (by omega), fun k _ _ _ _ g => ek k g⟩, ek 8 (by decide)⟩
    · obtain ⟨⟨k1, k2, k3⟩, p0, k4, k5, k6, k7, k8⟩ := h
      exact ⟨⟨k1, by rw [ek 2 (by decide)]; exact k2, fun i hi => by rw [ea 117 (by decide) (by omega)]; exact k3 i hi⟩, p0, k4, by rw [ek 4 (by decide)]; exact k5, by rw [ek 5 (by decide)]; exact k6, by rw [ek 6 (by decide)]; exact k7, k8⟩
    · rw [len_app] at hk
      rw [getD_appL]
      by_cases g : k = P.length
      · rw [if_neg (by omega), if_pos g, g]
        exact ⟨e0, e1⟩
      · rw [if_pos (by omega), ea (375 + k) (by omega) (by omega)]
        exact h2 k (by omega)
/-- the reference reads as S says, o braces open -/
def mOK (L : List Nat) (f : zV → Option zV) (S : rdE → sL × rdE) (o : Nat) : Prop := ∀ (P : sL) (τ : rdE) (v : zV), rdM L τ v → (∀ p, τ = .inl p → eLw P v ∧ P.length ≤ p ∧ v 116 8 = nI o) → ∃ w, f v = some w ∧ rdM L (S τ).2 w ∧ (∀ q, (S τ).2 = .inl q → eLw (P ++ (S τ).1) w ∧ w 116 8 = nI o) ∧ fr6 v w
theorem p_opens6 {L : List Nat} {p : Nat} {v : zV} (h : rdM L (.inl p) v) (hx : exM (.inl p) v) (h8 : v 116 8 = nI 6) : ∃ w, fX10_opens 116 v = some (0, w) ∧ rdM L (.inr (3, p)) w ∧ fr2 v w := by
  obtain ⟨w, hw, wR, wf⟩ := p_wrong h (k := 3) (pl := p) (by decide) (y := v 116 4) (fun _ _ => hx p rfl)
  refine ⟨w, ?_, wR, wf⟩
  unfold fX10_opens
  rw [rdM_0 h, if_pos (show nI 0 = 0 from rfl), h8, if_pos (show nI 6 = 6 from rfl), show (3 : Int32) = nI 3 from rfl, hw, zbindv_some, if_neg (rdM_n wR)]
theorem p_opens {L : List Nat} {p o : Nat} {v : zV} (h : rdM L (.inl p) v) (h8 : v 116 8 = nI o) (ho : o < 6) : fX10_opens 116 v = some (1, zup v 116 8 (nI (o + 1))) := by
  have e5 : (zup v 116 8 (nI (o + 1))) 116 5 = nI 0 := by rw [p_up_n _ _ (Or.inr (by decide))]; exact rdM_0 h
  unfold fX10_opens fX10_opens_28
  rw [rdM_0 h, if_pos (show nI 0 = 0 from rfl), h8, if_neg (show ¬ nI o = 6 from fun z => by have := (nI_eq (b := 6) (by omega) (by omega)).mp z; omega), if_pos (show nI 0 = 0 from rfl), zlet_eq, show (nI o + 1 : Int32) = nI (o + 1) from nI_add _ 1, e5, if_pos (show nI 0 = 0 from rfl)]
theorem rdM_8 {L : List Nat} {τ : rdE} {v : zV} (h : rdM L τ v) (x : Int32) : rdM L τ (zup v 116 8 x) := by
  have ek : ∀ k, k ≠ 8 → zup v 116 8 x 116 k = v 116 k := fun k g => p_up_n _ _ (Or.inr g)
  obtain ⟨⟨k1, k2, k3⟩, p0, k4, k5, k6⟩ := h
  refine ⟨⟨k1, by rw [ek 2 (by decide)]; exact k2, fun i hi => by rw [p_up_a _ _ _ (by decide)]; exact k3 i hi⟩, p0, k4, by rw [ek 4 (by decide)]; exact k5, ?_⟩
  cases τ with
  | inl p => exact ⟨by rw [ek 5 (by decide)]; exact k6.1, by rw [ek 6 (by decide)]; exact k6.2.1, k6.2.2⟩
  | inr f => exact ⟨by rw [ek 5 (by decide)]; exact k6.1, by rw [ek 6 (by decide)]; exact k6.2.1, k6.2.2⟩
theorem fr6_8 (v : zV) (x : Int32) : fr6 v (zup v 116 8 x) := ⟨fun a g _ => p_up_a _ _ _ g, fun k _ _ _ g _ => p_up_n _ _ (Or.inr g)⟩
theorem eLw_8 {P : sL} {v : zV} (h : eLw P v) (x : Int32) : eLw P (zup v 116 8 x) := ⟨(p_up_n _ _ (Or.inr (by decide))).trans h.1, fun k hk => by rw [p_up_a _ _ _ (show 375 + k ≠ 116 by omega)]; exact h.2 k hk⟩
theorem p_known {L : List Nat} {τ : rdE} {v : zV} (h : rdM L τ v) : ∃ w, fX10_knownHere 116 v = some (oI (tNm L τ).1, w) ∧ rdM L (tNm L τ).2 w ∧ fr2 v w := by
  unfold fX10_knownHere
  obtain ⟨u0, hu0, R0, f0⟩ := p_takes h (wl_at 8 (by decide)).1 (wl_at 8 (by decide)).2 w_8
  rw [hu0, zbind_some]
  by_cases g0 : (tTk L (tW 8) τ).1 = true
  · have e : tNm L τ = (some 0, (tTk L (tW 8) τ).2) := tNm_at (k := 0) (by decide) (fun j hj => absurd hj (Nat.not_lt_zero j)) g0
    rw [if_pos g0, if_neg (show ¬ (1 : Int32) = 0 by decide), e]
    exact ⟨u0, rfl, R0, f0⟩
  have r0 : rdM L τ u0 := by rw [tTk_no g0] at R0; exact R0
  rw [if_neg g0, if_pos rfl]
  obtain ⟨u1, hu1, R1, f1⟩ := p_takes r0 (wl_at 9 (by decide)).1 (wl_at 9 (by decide)).2 w_9
  rw [hu1, zbind_some]
  by_cases g1 : (tTk L (tW 9) τ).1 = true
  · have e : tNm L τ = (some 1, (tTk L (tW 9) τ).2) := tNm_at (k := 1) (by decide) (fun j hj => by
        obtain rfl : j = 0 := by omega
        exact g0) g1
    rw [if_pos g1, if_neg (show ¬ (1 : Int32) = 0 by decide), e]
    exact ⟨u1, rfl, R1, fr2_tr (f0) f1⟩
  have r1 : rdM L τ u1 := by rw [tTk_no g1] at R1; exact R1
  rw [if_neg g1, if_pos rfl]
  obtain ⟨u2, hu2, R2, f2⟩ := p_takes r1 (wl_at 10 (by decide)).1 (wl_at 10 (by decide)).2 w_10
  rw [hu2, zbind_some]
  by_cases g2 : (tTk L (tW 10) τ).1 = true
  · have e : tNm L τ = (some 2, (tTk L (tW 10) τ).2) := tNm_at (k := 2) (by decide) (fun j hj => by
        have : j = 0 ∨ j = 1 := by omega
        rcases this with rfl | rfl
        · exact g0
        · exact g1) g2
    rw [if_pos g2, if_neg (show ¬ (1 : Int32) = 0 by decide), e]
    exact ⟨u2, rfl, R2, fr2_tr (fr2_tr (f0) f1) f2⟩
  have r2 : rdM L τ u2 := by rw [tTk_no g2] at R2; exact R2
  rw [if_neg g2, if_pos rfl]
  obtain ⟨u3, hu3, R3, f3⟩ := p_takes r2 (wl_at 11 (by decide)).1 (wl_at 11 (by decide)).2 w_11
  rw [hu3, zbind_some]
  by_cases g3 : (tTk L (tW 11) τ).1 = true
  · have e : tNm L τ = (some 3, (tTk L (tW 11) τ).2) := tNm_at (k := 3) (by decide) (fun j hj => by
        have : j = 0 ∨ j = 1 ∨ j = 2 := by omega
        rcases this with rfl | rfl | rfl
        · exact g0
        · exact g1
        · exact g2) g3
    rw [if_pos g3, if_neg (show ¬ (1 : Int32) = 0 by decide), e]
    exact ⟨u3, rfl, R3, fr2_tr (fr2_tr (fr2_tr (f0) f1) f2) f3⟩
  have r3 : rdM L τ u3 := by rw [tTk_no g3] at R3; exact R3
  rw [if_neg g3, if_pos rfl]
  obtain ⟨u4, hu4, R4, f4⟩ := p_takes r3 (wl_at 12 (by decide)).1 (wl_at 12 (by decide)).2 w_12
  rw [hu4, zbind_some]
  by_cases g4 : (tTk L (tW 12) τ).1 = true
  · have e : tNm L τ = (some 4, (tTk L (tW 12) τ).2) := tNm_at (k := 4) (by decide) (fun j hj => by
        have : j = 0 ∨ j = 1 ∨ j = 2 ∨ j = 3 := by omega
        rcases this with rfl | rfl | rfl | rfl
        · exact g0
        · exact g1
        · exact g2
        · exact g3) g4
    rw [if_pos g4, if_neg (show ¬ (1 : Int32) = 0 by decide), e]
    exact ⟨u4, rfl, R4, fr2_tr (fr2_tr (fr2_tr (fr2_tr (f0) f1) f2) f3) f4⟩
  have r4 : rdM L τ u4 := by rw [tTk_no g4] at R4; exact R4
  rw [if_neg g4, if_pos rfl]
  obtain ⟨u5, hu5, R5, f5⟩ := p_takes r4 (wl_at 13 (by decide)).1 (wl_at 13 (by decide)).2 w_13
  rw [hu5, zbind_some]
  by_cases g5 : (tTk L (tW 13) τ).1 = true
  · have e : tNm L τ = (some 5, (tTk L (tW 13) τ).2) := tNm_at (k := 5) (by decide) (fun j hj => by
        have : j = 0 ∨ j = 1 ∨ j = 2 ∨ j = 3 ∨ j = 4 := by omega
        rcases this with rfl | rfl | rfl | rfl | rfl
        · exact g0
        · exact g1
        · exact g2
        · exact g3
        · exact g4) g5
    rw [if_pos g5, if_neg (show ¬ (1 : Int32) = 0 by decide), e]
    exact ⟨u5, rfl, R5, fr2_tr (fr2_tr (fr2_tr (fr2_tr (fr2_tr (f0) f1) f2) f3) f4) f5⟩
  have r5 : rdM L τ u5 := by rw [tTk_no g5] at R5; exact R5
  rw [if_neg g5, if_pos rfl]
  obtain ⟨u6, hu6, R6, f6⟩ := p_takes r5 (wl_at 14 (by decide)).1 (wl_at 14 (by decide)).2 w_14
  rw [hu6, zbind_some]
  by_cases g6 : (tTk L (tW 14) τ).1 = true
  · have e : tNm L τ = (some 6, (tTk L (tW 14) τ).2) := tNm_at (k := 6) (by decide) (fun j hj => by
        have : j = 0 ∨ j = 1 ∨ j = 2 ∨ j = 3 ∨ j = 4 ∨ j = 5 := by omega
        rcases this with rfl | rfl | rfl | rfl | rfl | rfl
        · exact g0
        · exact g1
        · exact g2
        · exact g3
        · exact g4
        · exact g5) g6
    rw [if_pos g6, if_neg (show ¬ (1 : Int32) = 0 by decide), e]
    exact ⟨u6, rfl, R6, fr2_tr (fr2_tr (fr2_tr (fr2_tr (fr2_tr (fr2_tr (f0) f1) f2) f3) f4) f5) f6⟩
  have r6 : rdM L τ u6 := by rw [tTk_no g6] at R6; exact R6
  rw [if_neg g6, if_pos rfl]
  rw [tNm_no (fun j hj => by
    have : j = 0 ∨ j = 1 ∨ j = 2 ∨ j = 3 ∨ j = 4 ∨ j = 5 ∨ j = 6 := by omega
    rcases this with rfl | rfl | rfl | rfl | rfl | rfl | rfl
    · exact g0
    · exact g1
    · exact g2
    · exact g3
    · exact g4
    · exact g5
    · exact g6)]
  exact ⟨u6, rfl, r6, fr2_tr (fr2_tr (fr2_tr (fr2_tr (fr2_tr (fr2_tr (f0) f1) f2) f3) f4) f5) f6⟩
theorem p_mTwoT {L : List Nat} (hL : L.length ≤ 150) {RCf : Nat → zV → Option zV} {RC : tRC} {o c : Nat} (hc : o < 6 → mOK L (RCf 116) (RC (o + 1)) (o + 1)) (hg : o < 6 → sGd L (RC (o + 1))) (ho : o ≤ 6) (hc6 : c = 6 ∨ c = 7) {P : sL} {p : Nat} {v : zV} (h : rdM L (.inl p) v) (hx : exM (.inl p) v) (hd : eLw P v ∧ P.length ≤ p ∧ v 116 8 = nI o) {i : Nat} (hi : i < 16) (hy : tIs L p (tW i) = true) : ∃ w, fX10_one_60 RCf 116 (nI c) v = some w ∧ rdM L (tTw L RC o c (.inl p) (.inl (tSk L (p + (tW i).length)))).2 w ∧ (∀ q, (tTw L RC o c (.inl p) (.inl (tSk L (p + (tW i).length)))).2 = .inl q → eLw (P ++ (tTw L RC o c (.inl p) (.inl (tSk L (p + (tW i).length)))).1) w ∧ w 116 8 = nI o) ∧ fr6 v w := by
  unfold fX10_one_60 tTw
  have hp := (rdM_np h).1
  have le := tIs_le hp hy
  have w3 := (tW_at i hi).2.2.2.2
  have hsk := tSk_ge L (p + (tW i).length)
  have hcn : ¬ nI c = (-1 : Int32) := fun z => by
    have := (ng_eq (a := c) (k := 1) (by omega) (by decide) (by decide))
    have z2 : nI c = -nI 1 := z
    rw [this] at z2
    exact z2
  rw [if_neg hcn]
  by_cases g : 6 ≤ o
  · obtain ⟨w, hw, wR, wf⟩ := p_opens6 h hx (by rw [hd.2.2, show o = 6 by omega])
    rw [if_pos g, hw, zbind_some, if_pos rfl]
    exact ⟨w, rfl, wR, fun q hq => (tFl_no (τ := .inl (tSk L (p + (tW i).length))) (k := 3) (pl := p) (q := q) hq).elim, fr6_2 wf⟩
  · have g6 : o < 6 := by omega
    obtain ⟨G1, G2⟩ := hg g6
    have hR8 := rdM_8 h (nI (o + 1))
    have hX8 : exM (.inl p) (zup v 116 8 (nI (o + 1))) := fun p' hp' => (p_up_n _ _ (Or.inr (by decide))).trans (hx p' hp')
    have hE8 := eLw_8 hd.1 (nI (o + 1))
    have h8 : (zup v 116 8 (nI (o + 1))) 116 8 = nI (o + 1) := p_up_s _ _ _ _
    rw [if_neg g, p_opens h hd.2.2 g6, zbind_some, if_neg (show ¬ (1 : Int32) = 0 by decide)]
    have f8 := fr6_8 v (nI (o + 1))
    generalize zup v 116 8 (nI (o + 1)) = v8 at hR8 hX8 hE8 h8 f8
    obtain ⟨s, hs, sR, sf⟩ := p_skipWord hR8 hX8
    rw [tIs_we hy] at sR
    obtain ⟨u0, hu0, u0R, u0f⟩ := p_mSign sR (c := 91) (by decide)
    obtain ⟨u1, hu1, u1R, u1d, u1f⟩ := hc g6 P (tSg L 91 (.inl (tSk L (p + (tW i).length)))) u0 u0R (fun p0 h0 => by
      obtain ⟨pp, e, l0, m0⟩ := tSg_lt h0
      cases e
      exact ⟨eLw_2 (eLw_2 hE8 sf) u0f, by have := hd.2.1; omega, e8_2 u0f (e8_2 sf h8)⟩)
    obtain ⟨u2, hu2, u2R, u2f⟩ := p_mSign u1R (c := 44) (by decide)
    obtain ⟨u3, hu3, u3R, u3d, u3f⟩ := hc g6 (P ++ (RC (o + 1) (tSg L 91 (.inl (tSk L (p + (tW i).length))))).1) (tSg L 44 (RC (o + 1) (tSg L 91 (.inl (tSk L (p + (tW i).length))))).2) u2 u2R (fun p2 h2 => by
      obtain ⟨p1, e1, l1, m1⟩ := tSg_lt h2
      obtain ⟨d1, d2⟩ := u1d p1 e1
      refine ⟨eLw_2 d1 u2f, ?_, e8_2 u2f d2⟩
      cases e0 : tSg L 91 (.inl (tSk L (p + (tW i).length))) with
      | inr f => rw [e0, G1] at e1; cases e1
      | inl p0 =>
        obtain ⟨pp, ee, l0, m0⟩ := tSg_lt e0
        cases ee
        rw [e0] at e1
        obtain ⟨a1, a2, a3, a4⟩ := G2 p0 p1 m0 e1
        have := hd.2.1
        rw [List.length_append]
        omega)
    obtain ⟨u4, hu4, u4R, u4f⟩ := p_mSign u3R (c := 93) (by decide)
    have key : ∀ q, tSg L 93 (RC (o + 1) (tSg L 44 (RC (o + 1) (tSg L 91 (.inl (tSk L (p + (tW i).length))))).2)).2 = .inl q → eLw (P ++ (RC (o + 1) (tSg L 91 (.inl (tSk L (p + (tW i).length))))).1 ++ (RC (o + 1) (tSg L 44 (RC (o + 1) (tSg L 91 (.inl (tSk L (p + (tW i).length))))).2)).1) u4 ∧ (P ++ (RC (o + 1) (tSg L 91 (.inl (tSk L (p + (tW i).length))))).1 ++ (RC (o + 1) (tSg L 44 (RC (o + 1) (tSg L 91 (.inl (tSk L (p + (tW i).length))))).2)).1).length < 150 ∧ u4 116 8 = nI (o + 1) := by
      intro q hq
      obtain ⟨p3, e3, l3, m3⟩ := tSg_lt hq
      obtain ⟨d1, d2⟩ := u3d p3 e3
      refine ⟨eLw_2 d1 u4f, ?_, e8_2 u4f d2⟩
      cases e2 : tSg L 44 (RC (o + 1) (tSg L 91 (.inl (tSk L (p + (tW i).length))))).2 with
      | inr f => rw [e2, G1] at e3; cases e3
      | inl p2 =>
        obtain ⟨p1, e1, l1, m1⟩ := tSg_lt e2
        cases e0 : tSg L 91 (.inl (tSk L (p + (tW i).length))) with
        | inr f => rw [e0, G1] at e1; cases e1
        | inl p0 =>
          obtain ⟨pp, ee, l0, m0⟩ := tSg_lt e0
          cases ee
          rw [e0] at e1 e2 e3
          rw [e2] at e3
          obtain ⟨a1, a2, a3, a4⟩ := G2 p0 p1 m0 e1
          obtain ⟨b1, b2, b3, b4⟩ := G2 p2 p3 m1 e3
          have := hd.2.1
          rw [List.length_append, List.length_append]
          omega
    obtain ⟨u5, hu5, u5R, u5d, u5f, u58⟩ := p_notes u4R (P := P ++ (RC (o + 1) (tSg L 91 (.inl (tSk L (p + (tW i).length))))).1 ++ (RC (o + 1) (tSg L 44 (RC (o + 1) (tSg L 91 (.inl (tSk L (p + (tW i).length))))).2)).1) (fun q hq => ⟨(key q hq).1, (key q hq).2.1⟩) c 0
    refine ⟨zup u5 116 8 (u5 116 8 - 1), ?_, rdM_8 u5R _, fun q hq => ⟨?_, ?_⟩, fr6_tr f8 (fr6_tr (fr6_2 sf) (fr6_tr (fr6_2 u0f) (fr6_tr u1f (fr6_tr (fr6_2 u2f) (fr6_tr u3f (fr6_tr (fr6_2 u4f) (fr6_tr u5f (fr6_8 _ _))))))))⟩
    · rw [hs, zbindv_some, show (91 : Int32) = nI 91 from rfl, hu0, zbindv_some, hu1, zbindv_some, show (44 : Int32) = nI 44 from rfl, hu2, zbindv_some, hu3, zbindv_some, show (93 : Int32) = nI 93 from rfl, hu4, zbindv_some, show (0 : Int32) = nI 0 from rfl, hu5, zbindv_some, zlet_eq]
    · have := eLw_8 (u5d q hq) (u5 116 8 - 1)
      dsimp only
      rw [show P ++ ((RC (o + 1) (tSg L 91 (.inl (tSk L (p + (tW i).length))))).1 ++ (RC (o + 1) (tSg L 44 (RC (o + 1) (tSg L 91 (.inl (tSk L (p + (tW i).length))))).2)).1 ++ [(c, 0)]) = P ++ (RC (o + 1) (tSg L 91 (.inl (tSk L (p + (tW i).length))))).1 ++ (RC (o + 1) (tSg L 44 (RC (o + 1) (tSg L 91 (.inl (tSk L (p + (tW i).length))))).2)).1 ++ [(c, 0)] by simp only [List.append_assoc]]
      exact this
    · rw [p_up_s, u58, (key q hq).2.2]
      exact nI_sub' (b := 1) (by omega)
theorem p_mOne {L : List Nat} (hL : L.length ≤ 150) {RCf : Nat → zV → Option zV} {RC : tRC} {o : Nat} (ho : o ≤ 6) (hc : o < 6 → mOK L (RCf 116) (RC (o + 1)) (o + 1)) (hg : o < 6 → sGd L (RC (o + 1))) : mOK L (fX10_one RCf 116) (tUn L RC o) o := by
  intro P τ v h hd
  unfold fX10_one
  cases τ with
  | inr f =>
    rw [if_neg (rdM_n h)]
    have e := (sGd_un hg).1 f
    rw [e]
    exact ⟨v, rfl, h, fun q hq => (by cases hq), fr6_2 (fr2_rf v)⟩
  | inl p =>
    obtain ⟨h1, h2, h3⟩ := hd p rfl
    obtain ⟨u0, hu0, R0, X0, ua, uk⟩ := p_blanks h
    have f0 := mk_fr ua uk
    obtain ⟨u1, hu1, R1, X1, f1⟩ := p_isWord R0 (wl_at 6 (by decide)).1 (wl_at 6 (by decide)).2 w_6
    rw [rdM_0 h, if_pos (show nI 0 = 0 from rfl), hu0, zbindv_some, hu1, zbind_some]
    have f01 := fr2_tr f0 f1
    have hp := (rdM_np h).1
    by_cases c6 : tIs L p (tW 6) = true
    · have c6' : (tTk L (tW 6) (.inl p)).1 = true := by rw [tTk_1]; exact c6
      obtain ⟨q1, e1, i1, e2⟩ := tTk_ok c6'
      cases e1
      have e : tUn L RC o (.inl p) = tTw L RC o 6 (.inl p) (.inl (tSk L (p + (tW 6).length))) := (if_pos c6').trans (by rw [e2])
      obtain ⟨w, hw, wR, wd, wf⟩ := p_mTwoT hL (RC := RC) (c := 6) hc hg ho (Or.inl rfl) R1 X1 (P := P) ⟨eLw_2 h1 f01, h2, e8_2 f01 h3⟩ (i := 6) (by decide) c6
      rw [e, if_pos (show tWd L (tW 6) (.inl p) = true from c6), if_neg (show ¬ (1 : Int32) = 0 by decide)]
      exact ⟨w, hw, wR, wd, fr6_tr (fr6_2 f01) wf⟩
    have c6' : ¬ (tTk L (tW 6) (.inl p)).1 = true := by rw [tTk_1]; exact c6
    rw [if_neg (show ¬ tWd L (tW 6) (.inl p) = true from c6), if_pos rfl]
    obtain ⟨u2, hu2, R2, X2, f2⟩ := p_isWord R1 (wl_at 7 (by decide)).1 (wl_at 7 (by decide)).2 w_7
    have f02 := fr2_tr f01 f2
    rw [hu2, zbind_some]
    by_cases c7 : tIs L p (tW 7) = true
    · have c7' : (tTk L (tW 7) (.inl p)).1 = true := by rw [tTk_1]; exact c7
      obtain ⟨q1, e1, i1, e2⟩ := tTk_ok c7'
      cases e1
      have e : tUn L RC o (.inl p) = tTw L RC o 7 (.inl p) (.inl (tSk L (p + (tW 7).length))) := by
        unfold tUn
        rw [if_neg c6', if_pos c7', e2]
      obtain ⟨w, hw, wR, wd, wf⟩ := p_mTwoT hL (RC := RC) (c := 7) hc hg ho (Or.inr rfl) R2 X2 (P := P) ⟨eLw_2 h1 f02, h2, e8_2 f02 h3⟩ (i := 7) (by decide) c7
      rw [e, if_pos (show tWd L (tW 7) (.inl p) = true from c7), if_neg (show ¬ (1 : Int32) = 0 by decide)]
      exact ⟨w, hw, wR, wd, fr6_tr (fr6_2 f02) wf⟩
    have c7' : ¬ (tTk L (tW 7) (.inl p)).1 = true := by rw [tTk_1]; exact c7
    rw [if_neg (show ¬ tWd L (tW 7) (.inl p) = true from c7), if_pos rfl]
    unfold fX10_one_60
    have hLL := R2.1.1
    have h1' := eLw_2 h1 f02
    have h3' := e8_2 f02 h3
    rw [if_pos rfl, X2 p rfl, byteAt_M R2.1 (by omega), zbind_some]
    by_cases cs : p < L.length ∧ bA L p = 40
    · have cs' : (tTs L 40 (.inl p)).1 = true := congrArg Prod.fst (if_pos cs : tTs L 40 (.inl p) = (true, .inl (tSk L (p + 1))))
      have e2 : (tTs L 40 (.inl p)).2 = .inl (tSk L (p + 1)) := congrArg Prod.snd (if_pos cs : tTs L 40 (.inl p) = (true, .inl (tSk L (p + 1))))
      have e : tUn L RC o (.inl p) = tBr L RC o (.inl p) (.inl (tSk L (p + 1))) := by
        unfold tUn
        rw [if_neg c6', if_neg c7', if_pos cs', e2]
      rw [e, if_pos (show bQt L p = (40 : Int32) from (bQt_is (c := 40) (fun z => (R2.1.2.2 p z).2) (by decide)).mpr cs)]
      unfold tBr
      by_cases g : 6 ≤ o
      · obtain ⟨w, hw, wR, wf⟩ := p_opens6 R2 X2 (by rw [h3', show o = 6 by omega])
        rw [if_pos g, hw, zbind_some, if_pos rfl]
        exact ⟨w, rfl, wR, fun q hq => (tFl_no (τ := .inl (tSk L (p + 1))) (k := 3) (pl := p) (q := q) hq).elim, fr6_2 (fr2_tr f02 wf)⟩
      · have g6 : o < 6 := by omega
        obtain ⟨G1, G2⟩ := hg g6
        have h4 : (zup u2 116 8 (nI (o + 1))) 116 4 = nI p := (p_up_n _ _ (Or.inr (by decide))).trans (X2 p rfl)
        have R8 := rdM_8 R2 (nI (o + 1))
        have E8 := eLw_8 h1' (nI (o + 1))
        have h8 : (zup u2 116 8 (nI (o + 1))) 116 8 = nI (o + 1) := p_up_s _ _ _ _
        have f8 := fr6_8 u2 (nI (o + 1))
        rw [if_neg g, p_opens R2 h3' g6, zbind_some, if_neg (show ¬ (1 : Int32) = 0 by decide), zlet_eq]
        generalize zup u2 116 8 (nI (o + 1)) = v8 at h4 R8 E8 h8 f8
        rw [h4, show (nI p + 1 : Int32) = nI (p + 1) from nI_add _ 1]
        have f4 := fr2_4 v8 (nI (p + 1))
        have R9 : rdM L (.inl (tSk L (p + 1))) (zup v8 116 4 (nI (p + 1))) := rdM_at R8 f4 (p_up_n _ _ (Or.inr (by decide))) (p_up_n _ _ (Or.inr (by decide))) (by omega) (p_up_s _ _ _ _)
        obtain ⟨u3, hu3, R3, d3, f3⟩ := hc g6 P (.inl (tSk L (p + 1))) _ R9 (fun p1 hp1 => by
          cases hp1
          have := tSk_ge L (p + 1)
          exact ⟨eLw_2 E8 f4, by omega, e8_2 f4 h8⟩)
        obtain ⟨u4, hu4, R4, f5⟩ := p_mSign R3 (c := 41) (by decide)
        refine ⟨zup u4 116 8 (u4 116 8 - 1), ?_, rdM_8 R4 _, fun q hq => ?_, fr6_tr (fr6_2 f02) (fr6_tr f8 (fr6_tr (fr6_2 f4) (fr6_tr f3 (fr6_tr (fr6_2 f5) (fr6_8 _ _)))))⟩
        · rw [hu3, zbindv_some, show (41 : Int32) = nI 41 from rfl, hu4, zbindv_some, zlet_eq]
        · obtain ⟨p3, e3, l3, m3⟩ := tSg_lt hq
          obtain ⟨d1, d2⟩ := d3 p3 e3
          refine ⟨eLw_8 (eLw_2 d1 f5) _, ?_⟩
          rw [p_up_s, e8_2 f5 d2]
          exact nI_sub' (b := 1) (by omega)
    have cs' : ¬ (tTs L 40 (.inl p)).1 = true := fun z => by
      obtain ⟨p', e', i', -⟩ := tTs_ok z
      cases e'
      exact cs i'
    rw [if_neg (show ¬ bQt L p = (40 : Int32) from fun z => cs ((bQt_is (c := 40) (fun z => (R2.1.2.2 p z).2) (by decide)).mp z))]
    obtain ⟨u3, hu3, R3, f3⟩ := p_known R2
    have f03 := fr2_tr f02 f3
    rw [hu3, zbind_some]
    cases ek : (tNm L (.inl p)).1 with
    | some k =>
      obtain ⟨k7, p', ep, ip, e2⟩ := (tNmA_ok 7 0 (.inl p) rfl).1 k ek
      cases ep
      have e : tUn L RC o (.inl p) = ([(1, k)], (tNm L (.inl p)).2) := by
        unfold tUn
        rw [if_neg c6', if_neg c7', if_neg cs', ek]
      have e2' : (tNm L (.inl p)).2 = .inl (tSk L (p + (tW (8 + k)).length)) := e2
      have le := tIs_le hp ip
      have w3 := (tW_at (8 + k) (by omega)).2.2.2.2
      obtain ⟨w, hw, wR, wd, wf, w8⟩ := p_notes R3 (P := P) (fun q hq => ⟨eLw_2 h1 f03, by omega⟩) 1 k
      rw [e]
      refine ⟨w, ?_, wR, fun q hq => ⟨wd q hq, by rw [w8]; exact e8_2 f03 h3⟩, fr6_tr (fr6_2 f03) wf⟩
      rw [if_neg (show ¬ oI (some k) = (-1 : Int32) from fun z => by
        have := (ng_eq (a := k) (k := 1) (by omega) (by decide) (by decide))
        have z2 : nI k = -nI 1 := z
        rw [this] at z2
        exact z2)]
      show zbindv (fX10_notes 116 (nI 1) (nI k) u3) _ = _
      rw [hw, zbindv_some]
    | none =>
      have e2 := ((tNmA_ok 7 0 (.inl p) rfl).2 ek).1
      have e2' : (tNm L (.inl p)).2 = .inl p := e2
      rw [e2'] at R3
      have e : tUn L RC o (.inl p) = ([(0, (tNum L 0 1000 (.inl p)).1)], (tNum L 0 1000 (.inl p)).2) := by
        unfold tUn
        rw [if_neg c6', if_neg c7', if_neg cs', ek]
      obtain ⟨u4, hu4, R4, f4⟩ := p_mNumber R3 (okBd_l (a := 0) (b := 999) (by decide) (by decide))
      have f04 := fr2_tr f03 f4
      obtain ⟨w, hw, wR, wd, wf, w8⟩ := p_notes R4 (P := P) (fun q hq => by
        obtain ⟨a1, a2, a3⟩ := tNum_lt hp hq
        exact ⟨eLw_2 h1 f04, by omega⟩) 0 (tNum L 0 1000 (.inl p)).1
      rw [e]
      refine ⟨w, ?_, wR, fun q hq => ⟨wd q hq, by rw [w8]; exact e8_2 f04 h3⟩, fr6_tr (fr6_2 f04) wf⟩
      rw [if_pos (show oI none = (-1 : Int32) from rfl), show (0 : Int32) = nI 0 from rfl, show (999 : Int32) = nI 999 from rfl, hu4, zbind_some, hw, zbindv_some]
theorem p_mprodL {L : List Nat} (hL : L.length ≤ 150) {RCf : Nat → zV → Option zV} {U : rdE → sL × rdE} {o : Nat} (hU : mOK L (fX10_one RCf 116) U o) (hg : sGd L U) : ∀ (d n : Nat) (P Q : sL) (τ : rdE) (v : zV), d < n → rdM L τ v → (∀ p, τ = .inl p → (eLw (P ++ Q) v ∧ (P ++ Q).length ≤ p ∧ v 116 8 = nI o) ∧ L.length < p + d) → ∃ w, fX10_product_4 RCf n 116 v = some w ∧ rdM L (tCh L U 42 47 4 5 d Q τ).2 w ∧ (∀ q, (tCh L U 42 47 4 5 d Q τ).2 = .inl q → eLw (P ++ (tCh L U 42 47 4 5 d Q τ).1) w ∧ w 116 8 = nI o) ∧ fr6 v w := by
  intro d
  induction d with
  | zero =>
    intro n P Q τ v hn h hd
    obtain ⟨n, rfl⟩ : ∃ k, n = k + 1 := ⟨n - 1, by omega⟩
    cases τ with
    | inl p => have := (hd p rfl).2; have := (rdM_np h).1; omega
    | inr f =>
      refine ⟨v, ?_, h, fun q hq => (by cases hq), fr6_2 (fr2_rf v)⟩
      rw [fX10_product_4]
      dsimp only
      rw [if_neg (rdM_n h)]
  | succ d ih =>
    intro n P Q τ v hn h hd
    obtain ⟨n, rfl⟩ : ∃ k, n = k + 1 := ⟨n - 1, by omega⟩
    cases τ with
    | inr f =>
      have e : tCh L U 42 47 4 5 (d + 1) Q (.inr f) = (Q, .inr f) := by
        rw [tCh, if_neg (show ¬ (tTs L 42 (.inr f)).1 = true from fun z => by cases z), if_neg (show ¬ (tTs L 47 (.inr f)).1 = true from fun z => by cases z)]
      rw [e]
      refine ⟨v, ?_, h, fun q hq => (by cases hq), fr6_2 (fr2_rf v)⟩
      rw [fX10_product_4]
      dsimp only
      rw [if_neg (rdM_n h)]
    | inl p =>
      obtain ⟨⟨h1, h2, h3⟩, hlen⟩ := hd p rfl
      have hp := (rdM_np h).1
      have go : ∀ (c z : Nat) (u : zV), z < 100 → (tTs L c (.inl p)).1 = true → rdM L (tTs L c (.inl p)).2 u → fr2 v u → ∃ u2, fX10_product_38 RCf (fX10_product_4 RCf n) 116 (nI z) u = fX10_product_4 RCf n 116 u2 ∧ rdM L (U (tTs L c (.inl p)).2).2 u2 ∧ (∀ p1, (U (tTs L c (.inl p)).2).2 = .inl p1 → (eLw (P ++ (Q ++ (U (tTs L c (.inl p)).2).1 ++ [(z, 0)])) u2 ∧ (P ++ (Q ++ (U (tTs L c (.inl p)).2).1 ++ [(z, 0)])).length ≤ p1 ∧ u2 116 8 = nI o) ∧ L.length < p1 + d) ∧ fr6 v u2 := by
        intro c z u hz hy uR uf
        obtain ⟨p', ep, ip, ep2⟩ := tTs_ok hy
        cases ep
        have hge := tSk_ge L (p + 1)
        have hle := tSk_le L (show p + 1 ≤ L.length by omega)
        rw [ep2] at uR ⊢
        obtain ⟨u1, hu1, R1, d1, f1⟩ := hU (P ++ Q) (.inl (tSk L (p + 1))) u uR (fun p1 hp1 => by
          cases hp1
          exact ⟨eLw_2 h1 uf, by omega, e8_2 uf h3⟩)
        have hb : ∀ p1, (U (.inl (tSk L (p + 1)))).2 = .inl p1 → (P ++ Q ++ (U (.inl (tSk L (p + 1)))).1).length < p1 ∧ p1 ≤ L.length ∧ p + 1 < p1 := fun p1 hp1 => by
          obtain ⟨b1, b2, b3, b4⟩ := hg.2 _ p1 hle hp1
          refine ⟨?_, b2, by omega⟩
          rw [List.length_append]
          omega
        obtain ⟨u2, hu2, R2, d2, f2, e8⟩ := p_notes R1 (P := P ++ Q ++ (U (.inl (tSk L (p + 1)))).1) (fun p1 hp1 => ⟨(d1 p1 hp1).1, by have := hb p1 hp1; omega⟩) z 0
        refine ⟨u2, ?_, R2, fun p1 hp1 => ?_, fr6_tr (fr6_2 uf) (fr6_tr f1 f2)⟩
        · unfold fX10_product_38
          rw [if_neg (show ¬ nI z = (-1 : Int32) from fun q => by
            have := (ng_eq (a := z) (k := 1) (by omega) (by decide) (by decide))
            have q2 : nI z = -nI 1 := q
            rw [this] at q2
            exact q2), hu1, zbindv_some, show (0 : Int32) = nI 0 from rfl, hu2, zbindv_some]
        · obtain ⟨b1, b2, b3⟩ := hb p1 hp1
          rw [show P ++ (Q ++ (U (.inl (tSk L (p + 1)))).1 ++ [(z, 0)]) = P ++ Q ++ (U (.inl (tSk L (p + 1)))).1 ++ [(z, 0)] by simp only [List.append_assoc]]
          refine ⟨⟨d2 p1 hp1, ?_, by rw [e8]; exact (d1 p1 hp1).2⟩, by omega⟩
          rw [len_app]
          omega
      obtain ⟨u1, hu1, R1, f1⟩ := p_mTakesSign h (c := 42) (by decide)
      rw [fX10_product_4]
      dsimp only
      rw [rdM_0 h, if_pos (show nI 0 = 0 from rfl), show (42 : Int32) = nI 42 from rfl, hu1, zbind_some, tCh]
      by_cases ca : (tTs L 42 (.inl p)).1 = true
      · obtain ⟨u2, hu2, R2, d2, f2⟩ := go 42 4 u1 (by decide) ca R1 f1
        obtain ⟨w, hw, wR, wd, wf⟩ := ih n P (Q ++ (U (tTs L 42 (.inl p)).2).1 ++ [(4, 0)]) (U (tTs L 42 (.inl p)).2).2 u2 (by omega) R2 d2
        rw [if_pos ca, if_neg (show ¬ (1 : Int32) = 0 by decide), if_pos ca]
        exact ⟨w, Eq.trans hu2 hw, wR, wd, fr6_tr f2 wf⟩
      have R1' : rdM L (.inl p) u1 := by rw [tTs_no ca] at R1; exact R1
      obtain ⟨u2, hu2, R2, f2⟩ := p_mTakesSign R1' (c := 47) (by decide)
      rw [if_neg ca, if_pos rfl, if_neg ca, show (47 : Int32) = nI 47 from rfl, hu2, zbind_some]
      by_cases cb : (tTs L 47 (.inl p)).1 = true
      · obtain ⟨u3, hu3, R3, d3, f3⟩ := go 47 5 u2 (by decide) cb R2 (fr2_tr f1 f2)
        obtain ⟨w, hw, wR, wd, wf⟩ := ih n P (Q ++ (U (tTs L 47 (.inl p)).2).1 ++ [(5, 0)]) (U (tTs L 47 (.inl p)).2).2 u3 (by omega) R3 d3
        rw [if_pos cb, if_neg (show ¬ (1 : Int32) = 0 by decide), if_pos cb]
        exact ⟨w, Eq.trans hu3 hw, wR, wd, fr6_tr f3 wf⟩
      have R2' : rdM L (.inl p) u2 := by rw [tTs_no cb] at R2; exact R2
      rw [if_neg cb, if_pos rfl, if_neg cb]
      refine ⟨u2, ?_, R2', fun q hq => ⟨eLw_2 h1 (fr2_tr f1 f2), e8_2 (fr2_tr f1 f2) h3⟩, fr6_2 (fr2_tr f1 f2)⟩
      unfold fX10_product_38
      rw [if_pos rfl]
theorem p_msumL {L : List Nat} (hL : L.length ≤ 150) {RCf : Nat → zV → Option zV} {U : rdE → sL × rdE} {o : Nat} (hU : mOK L (fX10_product RCf 116) U o) (hg : sGd L U) : ∀ (d n : Nat) (P Q : sL) (τ : rdE) (v : zV), d < n → rdM L τ v → (∀ p, τ = .inl p → (eLw (P ++ Q) v ∧ (P ++ Q).length ≤ p ∧ v 116 8 = nI o) ∧ L.length < p + d) → ∃ w, fX10_sum_4 RCf n 116 v = some w ∧ rdM L (tCh L U 43 45 2 3 d Q τ).2 w ∧ (∀ q, (tCh L U 43 45 2 3 d Q τ).2 = .inl q → eLw (P ++ (tCh L U 43 45 2 3 d Q τ).1) w ∧ w 116 8 = nI o) ∧ fr6 v w := by
  intro d
  induction d with
  | zero =>
    intro n P Q τ v hn h hd
    obtain ⟨n, rfl⟩ : ∃ k, n = k + 1 := ⟨n - 1, by omega⟩
    cases τ with
    | inl p => have := (hd p rfl).2; have := (rdM_np h).1; omega
    | inr f =>
      refine ⟨v, ?_, h, fun q hq => (by cases hq), fr6_2 (fr2_rf v)⟩
      rw [fX10_sum_4]
      dsimp only
      rw [if_neg (rdM_n h)]
  | succ d ih =>
    intro n P Q τ v hn h hd
    obtain ⟨n, rfl⟩ : ∃ k, n = k + 1 := ⟨n - 1, by omega⟩
    cases τ with
    | inr f =>
      have e : tCh L U 43 45 2 3 (d + 1) Q (.inr f) = (Q, .inr f) := by
        rw [tCh, if_neg (show ¬ (tTs L 43 (.inr f)).1 = true from fun z => by cases z), if_neg (show ¬ (tTs L 45 (.inr f)).1 = true from fun z => by cases z)]
      rw [e]
      refine ⟨v, ?_, h, fun q hq => (by cases hq), fr6_2 (fr2_rf v)⟩
      rw [fX10_sum_4]
      dsimp only
      rw [if_neg (rdM_n h)]
    | inl p =>
      obtain ⟨⟨h1, h2, h3⟩, hlen⟩ := hd p rfl
      have hp := (rdM_np h).1
      have go : ∀ (c z : Nat) (u : zV), z < 100 → (tTs L c (.inl p)).1 = true → rdM L (tTs L c (.inl p)).2 u → fr2 v u → ∃ u2, fX10_sum_38 RCf (fX10_sum_4 RCf n) 116 (nI z) u = fX10_sum_4 RCf n 116 u2 ∧ rdM L (U (tTs L c (.inl p)).2).2 u2 ∧ (∀ p1, (U (tTs L c (.inl p)).2).2 = .inl p1 → (eLw (P ++ (Q ++ (U (tTs L c (.inl p)).2).1 ++ [(z, 0)])) u2 ∧ (P ++ (Q ++ (U (tTs L c (.inl p)).2).1 ++ [(z, 0)])).length ≤ p1 ∧ u2 116 8 = nI o) ∧ L.length < p1 + d) ∧ fr6 v u2 := by
        intro c z u hz hy uR uf
        obtain ⟨p', ep, ip, ep2⟩ := tTs_ok hy
        cases ep
        have hge := tSk_ge L (p + 1)
        have hle := tSk_le L (show p + 1 ≤ L.length by omega)
        rw [ep2] at uR ⊢
        obtain ⟨u1, hu1, R1, d1, f1⟩ := hU (P ++ Q) (.inl (tSk L (p + 1))) u uR (fun p1 hp1 => by
          cases hp1
          exact ⟨eLw_2 h1 uf, by omega, e8_2 uf h3⟩)
        have hb : ∀ p1, (U (.inl (tSk L (p + 1)))).2 = .inl p1 → (P ++ Q ++ (U (.inl (tSk L (p + 1)))).1).length < p1 ∧ p1 ≤ L.length ∧ p + 1 < p1 := fun p1 hp1 => by
          obtain ⟨b1, b2, b3, b4⟩ := hg.2 _ p1 hle hp1
          refine ⟨?_, b2, by omega⟩
          rw [List.length_append]
          omega
        obtain ⟨u2, hu2, R2, d2, f2, e8⟩ := p_notes R1 (P := P ++ Q ++ (U (.inl (tSk L (p + 1)))).1) (fun p1 hp1 => ⟨(d1 p1 hp1).1, by have := hb p1 hp1; omega⟩) z 0
        refine ⟨u2, ?_, R2, fun p1 hp1 => ?_, fr6_tr (fr6_2 uf) (fr6_tr f1 f2)⟩
        · unfold fX10_sum_38
          rw [if_neg (show ¬ nI z = (-1 : Int32) from fun q => by
            have := (ng_eq (a := z) (k := 1) (by omega) (by decide) (by decide))
            have q2 : nI z = -nI 1 := q
            rw [this] at q2
            exact q2), hu1, zbindv_some, show (0 : Int32) = nI 0 from rfl, hu2, zbindv_some]
        · obtain ⟨b1, b2, b3⟩ := hb p1 hp1
          rw [show P ++ (Q ++ (U (.inl (tSk L (p + 1)))).1 ++ [(z, 0)]) = P ++ Q ++ (U (.inl (tSk L (p + 1)))).1 ++ [(z, 0)] by simp only [List.append_assoc]]
          refine ⟨⟨d2 p1 hp1, ?_, by rw [e8]; exact (d1 p1 hp1).2⟩, by omega⟩
          rw [len_app]
          omega
      obtain ⟨u1, hu1, R1, f1⟩ := p_mTakesSign h (c := 43) (by decide)
      rw [fX10_sum_4]
      dsimp only
      rw [rdM_0 h, if_pos (show nI 0 = 0 from rfl), show (43 : Int32) = nI 43 from rfl, hu1, zbind_some, tCh]
      by_cases ca : (tTs L 43 (.inl p)).1 = true
      · obtain ⟨u2, hu2, R2, d2, f2⟩ := go 43 2 u1 (by decide) ca R1 f1
        obtain ⟨w, hw, wR, wd, wf⟩ := ih n P (Q ++ (U (tTs L 43 (.inl p)).2).1 ++ [(2, 0)]) (U (tTs L 43 (.inl p)).2).2 u2 (by omega) R2 d2
        rw [if_pos ca, if_neg (show ¬ (1 : Int32) = 0 by decide), if_pos ca]
        exact ⟨w, Eq.trans hu2 hw, wR, wd, fr6_tr f2 wf⟩
      have R1' : rdM L (.inl p) u1 := by rw [tTs_no ca] at R1; exact R1
      obtain ⟨u2, hu2, R2, f2⟩ := p_mTakesSign R1' (c := 45) (by decide)
      rw [if_neg ca, if_pos rfl, if_neg ca, show (45 : Int32) = nI 45 from rfl, hu2, zbind_some]
      by_cases cb : (tTs L 45 (.inl p)).1 = true
      · obtain ⟨u3, hu3, R3, d3, f3⟩ := go 45 3 u2 (by decide) cb R2 (fr2_tr f1 f2)
        obtain ⟨w, hw, wR, wd, wf⟩ := ih n P (Q ++ (U (tTs L 45 (.inl p)).2).1 ++ [(3, 0)]) (U (tTs L 45 (.inl p)).2).2 u3 (by omega) R3 d3
        rw [if_pos cb, if_neg (show ¬ (1 : Int32) = 0 by decide), if_pos cb]
        exact ⟨w, Eq.trans hu3 hw, wR, wd, fr6_tr f3 wf⟩
      have R2' : rdM L (.inl p) u2 := by rw [tTs_no cb] at R2; exact R2
      rw [if_neg cb, if_pos rfl, if_neg cb]
      refine ⟨u2, ?_, R2', fun q hq => ⟨eLw_2 h1 (fr2_tr f1 f2), e8_2 (fr2_tr f1 f2) h3⟩, fr6_2 (fr2_tr f1 f2)⟩
      unfold fX10_sum_38
      rw [if_pos rfl]
theorem p_mproduct {L : List Nat} (hL : L.length ≤ 150) {RCf : Nat → zV → Option zV} {RC : tRC} {o : Nat} (ho : o ≤ 6) (hc : o < 6 → mOK L (RCf 116) (RC (o + 1)) (o + 1)) (hg : o < 6 → sGd L (RC (o + 1))) : mOK L (fX10_product RCf 116) (tPd L RC o) o := by
  intro P τ v h hd
  have hU := p_mOne hL ho hc hg
  have hs := sGd_un hg
  obtain ⟨u, hu, uR, ud, uf⟩ := hU P τ v h hd
  obtain ⟨w, hw, wR, wd, wf⟩ := p_mprodL hL hU hs 150 zFU P (tUn L RC o τ).1 (tUn L RC o τ).2 u (by unfold zFU; omega) uR (fun p1 hp1 => by
    refine ⟨⟨(ud p1 hp1).1, ?_, (ud p1 hp1).2⟩, ?_⟩
    · cases τ with
      | inr f => rw [hs.1] at hp1; cases hp1
      | inl p =>
        obtain ⟨b1, b2, b3, b4⟩ := hs.2 p p1 (rdM_np h).1 hp1
        have := (hd p rfl).2.1
        rw [List.length_append]
        omega
    · cases τ with
      | inr f => rw [hs.1] at hp1; cases hp1
      | inl p =>
        obtain ⟨b1, b2, b3, b4⟩ := hs.2 p p1 (rdM_np h).1 hp1
        omega)
  refine ⟨w, ?_, wR, wd, fr6_tr uf wf⟩
  unfold fX10_product
  rw [hu, zbindv_some]
  exact hw
theorem p_msumR {L : List Nat} (hL : L.length ≤ 150) {RCf : Nat → zV → Option zV} {RC : tRC} {o : Nat} (ho : o ≤ 6) (hc : o < 6 → mOK L (RCf 116) (RC (o + 1)) (o + 1)) (hg : o < 6 → sGd L (RC (o + 1))) : mOK L (fX10_sum RCf 116) (tSu L RC o) o := by
  intro P τ v h hd
  have hU := p_mproduct hL ho hc hg
  have hs := sGd_pd hg
  obtain ⟨u, hu, uR, ud, uf⟩ := hU P τ v h hd
  obtain ⟨w, hw, wR, wd, wf⟩ := p_msumL hL hU hs 150 zFU P (tPd L RC o τ).1 (tPd L RC o τ).2 u (by unfold zFU; omega) uR (fun p1 hp1 => by
    refine ⟨⟨(ud p1 hp1).1, ?_, (ud p1 hp1).2⟩, ?_⟩
    · cases τ with
      | inr f => rw [hs.1] at hp1; cases hp1
      | inl p =>
        obtain ⟨b1, b2, b3, b4⟩ := hs.2 p p1 (rdM_np h).1 hp1
        have := (hd p rfl).2.1
        rw [List.length_append]
        omega
    · cases τ with
      | inr f => rw [hs.1] at hp1; cases hp1
      | inl p =>
        obtain ⟨b1, b2, b3, b4⟩ := hs.2 p p1 (rdM_np h).1 hp1
        omega)
  refine ⟨w, ?_, wR, wd, fr6_tr uf wf⟩
  unfold fX10_sum
  rw [hu, zbindv_some]
  exact hw
theorem p_mSumD {L : List Nat} (hL : L.length ≤ 150) : ∀ (D o : Nat), o ≤ 6 → 7 ≤ o + D → mOK L (fX10_sumD D 116) (tSm L D o) o := by
  intro D
  induction D with
  | zero => intro o h1 h2; omega
  | succ D ih =>
    intro o h1 h2
    exact p_msumR hL h1 (fun h => ih (o + 1) (by omega) (by omega)) (fun h => sGd_sm D (o + 1) (by omega) (by omega))
end
