/-! BOOK, the call -/
section
theorem l31x : zlen 32 = 12 ∧ zlen 33 = 12 := by decide +kernel
theorem rr_31_1 : zrf 31 1 = 32 := by decide +kernel
theorem rr_31_2 : zrf 31 2 = 33 := by decide +kernel
theorem p_bookCopy {β : sB} {v : zV} (h : dBk β v) (hb : β.length ≤ 12) : ∃ w, fX1_copy 31 34 v = some w ∧ pCB w β ∧ ∀ a, a ≠ 31 → a ≠ 32 → a ≠ 33 → w a = v a := by
  have c12 : ∀ {γ : Type} {i j : Nat} (k : Option γ), zlen i = 12 → zlen j = 12 → zcpk i j (0 : Int32) (0 : Int32) (12 : Int32) k = k := fun k h1 h2 => zcpk_0 (n := 12) (by omega) (by omega) (by decide) k
  refine ⟨zcp (zcp (zup v 31 0 (v 34 0)) 35 32 0 0 12) 36 33 0 0 12, ?_, ⟨?_, fun k hk => ⟨?_, ?_⟩⟩, fun a g1 g2 g3 => ?_⟩
  · unfold fX1_copy
    rw [zlet_eq, rr_34_1, rr_34_2, rr_31_1, rr_31_2, c12 _ l35 l31x.1, zlet_eq, c12 _ l36 l31x.2, zlet_eq]
    rfl
  · rw [zc_n (by decide), zc_n (by decide), p_up_s]
    exact h.1
  · rw [zc_n (by decide), zc_s (by omega), p_up_a _ _ _ (by decide)]
    exact (h.2 k hk).1
  · rw [zc_s (by omega), zc_n (by decide), p_up_a _ _ _ (by decide)]
    exact (h.2 k hk).2
  · rw [zc_n g3, zc_n g2, p_up_a _ _ _ g1]
/-- the law's cap on a text, in the reference -/
theorem in_cap {x : Int32} {len : Nat} (hl : len ≤ 600) : inB x 0 (min 150 len) ↔ inB x 0 len ∧ x ≤ 150 := by
  constructor
  · rintro ⟨k, k1, k2, rfl⟩
    have := Nat.le_min.mp k2
    exact ⟨⟨k, k1, this.2, rfl⟩, leY (b := 150) (by omega) (by omega) this.1⟩
  · rintro ⟨⟨k, k1, k2, rfl⟩, h⟩
    have : k ≤ 150 := (nI_leI (b := 150) (by omega) (by omega)).mp h
    exact ⟨k, k1, Nat.le_min.mpr ⟨this, k2⟩, rfl⟩
theorem rdM_end {L : List Nat} {p : Nat} {v : zV} (h : rdM L (.inl p) v) : v 116 5 = 0 := rdM_0 h
theorem nI_10 (k : Nat) : nI k - 10 = nI k - 10 := rfl
theorem p_ends {L : List Nat} {f : Nat × Nat} {v : zV} (h : rdM L (.inr f) v) : fX10_ends 116 v = some (nI f.1 - 10, zup v 116 3 (nI f.2)) := by
  obtain ⟨h1, p0, h2, h3, h4, h5, h6, h7⟩ := h
  unfold fX10_ends
  rw [zlet_eq, h5, p_up_n _ _ (Or.inr (by decide)), h4]
theorem case_3 {v : zV} (hInv : sInv v) (p1 : Int32) : ∃ w, fLc_3 p1 v = some w ∧ sInv w := by
  obtain ⟨α, l, β, ρ, ρb, im, tp, pl, r0, r1, hs, hI, hM⟩ := hInv
  have ha := hs.1
  have hl := hs.2.1
  have hbk := hs.2.2.1
  have hQ : CQ v α l ρ := ⟨hI.1, hI.2.2.1⟩
  have hO : OKs α l ρ := ⟨ha, hl, hs.2.2.2.1.1, hs.2.2.2.1.2⟩
  have hi := hs.2.2.2.2.2.2.1.1
  have hy := hs.2.2.2.1.2
  have oC : okC ρ := okW_C ha (ok_13 ha) hO.2.2.1
  have q1 : v 3 1 = nI (α 0 1) := hI.1.1.1.2.1
  have q0 : v 3 0 = nI (α 0 0) := hI.1.1.1.1
  have M16 : α 0 1 ≤ 16 := ha.1.2.1
  have Q6 : α 0 0 ≤ 6 := ha.1.1
  show ∃ w, zTail (zcatch (fX9_book 0 p1 v) 603 none (some 1)) (fX10_book 116 p1) = some w ∧ sInv w
  have h600 := hs.2.2.2.2.2.2.2.1
  have hby := hs.2.2.2.2.2.2.2.2
  have hT : tpC tp v := hI.2.2.2.2.2.1
  by_cases h0 : inB p1 0 (min 150 tp.length)
  case neg =>
    exact tl_N (z1 := 1) (y := 1) (z := 0) hs hI hM (by decide) (by unfold fX9_book; rw [show (150 : Int32) = nI 150 from rfl, p_openN hT h600 (by decide) h0, zbx_2]) (by decide) ⟨fun h => absurd h (by decide), fun _ => rfl⟩ (fun v2 b2 => by
      obtain ⟨g0, g1, g2, gQ, gD, gE⟩ := qM0 hs b2
      have u1 : (zup v2 116 0 0) 116 1 = nI tp.length := by rw [p_up_n _ _ (Or.inr (by decide))]; exact b2.2.2.2.2.2.2.2.2.1.1
      refine ⟨_, ?_, rfM_up v2 1 1⟩
      unfold fX10_book fX10_book_30
      rw [zlet_eq, u1]
      by_cases h2 : inB p1 0 tp.length
      · rw [pinY (x := p1) (lo := 0) (hi := nI tp.length) (a := 0) (b := tp.length) (by decide) (by omega) rfl rfl h2, zbind_some, if_neg (show ¬ (1 : Int32) = 0 by decide), if_neg (show ¬ p1 ≤ 150 from fun z => h0 ((in_cap h600).mpr ⟨h2, z⟩)), pb1_11 g0, zbind_some, if_neg (show ¬ (1 : Int32) = 0 by decide)]
        rfl
      · rw [pinN (x := p1) (lo := 0) (hi := nI tp.length) (a := 0) (b := tp.length) (by decide) (by omega) rfl rfl h2, zbind_some, if_pos (show (0 : Int32) = 0 from rfl), pb1_11 g0, zbind_some, if_neg (show ¬ (1 : Int32) = 0 by decide)]
        rfl)
  have h2 := (in_cap h600).mp h0
  obtain ⟨n, -, nmin, rfl⟩ := id h0
  obtain ⟨n150, nlen⟩ := Nat.le_min.mp nmin
  obtain ⟨u, hu, uR, u11, ua⟩ := p_openY hT hby h600 nlen n150 (by decide)
  have Lr : ∀ v2, pIM α l β ρ ρb im tp pl r0 r1 v2 → ∃ y, fX10_book 116 (nI n) v2 = fX10_book_47 zFU 116 (nI 0) y ∧ rdM (tp.take n) (.inl (tSk (tp.take n) 0)) y ∧ exM (.inl (tSk (tp.take n) 0)) y ∧ y 116 0 = nI 0 ∧ y 116 1 = nI 0 ∧ (∀ a, a ≠ 116 → y a = v2 a) ∧ ∀ k, k ≠ 0 → k ≠ 1 → k ≠ 2 → k ≠ 4 → k ≠ 5 → k ≠ 6 → k ≠ 7 → k ≠ 8 → y 116 k = v2 116 k := by
    intro v2 b2
    obtain ⟨g0, g1, g2, gQ, gD, gE⟩ := qM0 hs b2
    have u1 : (zup v2 116 0 0) 116 1 = nI tp.length := by rw [p_up_n _ _ (Or.inr (by decide))]; exact b2.2.2.2.2.2.2.2.2.1.1
    have uT : tpM tp (zup v2 116 0 0) := ⟨u1, fun k hk => by rw [p_up_a _ _ _ (by decide)]; exact b2.2.2.2.2.2.2.2.2.1.2 k hk⟩
    obtain ⟨y, hy, yR, yX, y1, -, -, ya, yk⟩ := p_starts uT hby h600 nlen
    refine ⟨y, ?_, yR, yX, by rw [yk 0 (by decide) (by decide) (by decide) (by decide) (by decide) (by decide) (by decide)]; exact g0, y1, fun a g => (ya a g).trans (p_up_a _ _ _ g), fun k q0 q1 q2 q4 q5 q6 q7 q8 => (yk k q1 q2 q4 q5 q6 q7 q8).trans (p_up_n _ _ (Or.inr q0))⟩
    unfold fX10_book fX10_book_30
    rw [zlet_eq, u1, pinY (x := nI n) (lo := 0) (hi := nI tp.length) (a := 0) (b := tp.length) (by decide) (by omega) rfl rfl h2.1, zbind_some, if_neg (show ¬ (1 : Int32) = 0 by decide), if_pos h2.2, pb0 g0, zbind_some, if_pos (show (0 : Int32) = 0 from rfl), hy, zbindv_some]
    rfl
  -- the class reads
  have u34 : ∀ x : Int32, rdC (tp.take n) (.inl (tSk (tp.take n) 0)) (zup u 34 0 x) := fun x => rdC_fr uR (p_up_a _ _ _ (by decide)) (p_up_a _ _ _ (by decide))
  obtain ⟨t, ht, tR, td, tf⟩ := p_bookL (L := tp.take n) M16 13 zFU [] _ (zup u 34 0 0) rfl (by unfold zFU; omega) (u34 0) (fun _ _ => ⟨p_up_s _ _ _ _, fun k hk => absurd hk (Nat.not_lt_zero k)⟩)
  have u31 : u 3 1 = nI (α 0 1) := by rw [ua 3 (by decide)]; exact q1
  have hread : fX1_read 34 1 (nI (α 0 1)) u = some t := by
    unfold fX1_read
    rw [zlet_eq]
    exact ht
  have ta : ∀ a, a ≠ 1 → a ≠ 34 → a ≠ 35 → a ≠ 36 → t a = v a := fun a q1 q2 q3 q4 => (tf.1 a q1 q2 q3 q4).trans ((p_up_a _ _ _ q2).trans (ua a q1))
  have t11 : t 1 1 = nI 0 := by rw [tf.2 1 (by decide) (by decide) (by decide), p_up_a _ _ _ (by decide)]; exact u11
  have hcl : fX9_book 0 (nI n) v = if t 1 2 = 0 then zbindv (fX1_copy 31 34 t) fun v_4 => some (0, v_4 31 0, v_4) else some (0, t 1 2 - 10, t) := by
    unfold fX9_book
    rw [show (150 : Int32) = nI 150 from rfl, hu, zbx_0, rf_0_6, rf_0_0, rf_0_1, u31, hread, zbindv_some, rf_0_5]
  cases hτ : (tBk (tp.take n) (α 0 1) 13 [] (.inl (tSk (tp.take n) 0))).2 with
  | inr f =>
    rw [hτ] at tR
    have hs' : okS α l β ρ ρb im [] := ⟨ha, hl, hbk, hs.2.2.2.1, hs.2.2.2.2.1, hs.2.2.2.2.2.1, hs.2.2.2.2.2.2.1, Nat.zero_le _, fun k hk => absurd hk (Nat.not_lt_zero k)⟩
    have t2 : t 1 2 = nI f.1 ∧ t 1 3 = nI f.2 ∧ 1 ≤ f.1 ∧ f.1 ≤ 4 := by obtain ⟨-, p0, -, -, k1, k2, k3, k4⟩ := tR; exact ⟨k1, k2, k3, k4⟩
    refine tl_G hs hs' hM (v1 := t) (r := nI f.1 - 10) (pl' := nI f.2) (r0' := r0) (r1' := r1) ?_ (fun a g1 g2 => ta a (by omega) (by omega) (by omega) (by omega)) (IC_text hi hI (fun a g1 g2 g3 g4 g5 => ta a g2 (by omega) (by omega) (by omega)) t11 t2.2.1) (fun v2 b2 => ?_)
    · rw [hcl, t2.1, if_neg (show ¬ nI f.1 = 0 from fun z => by have := (nI_is0 (by omega)).mp z; omega)]
    · obtain ⟨y, hy, yR, yX, y0, y1, ya, yk⟩ := Lr v2 b2
      obtain ⟨x, m, hx, xR, -, xf⟩ := p_mBookL M16 13 zFU [] _ y rfl (by unfold zFU; omega) (fun _ _ => Nat.zero_le _) yR yX (by rw [ya 120 (by decide)]; exact b2.1.1.1 1 (by decide)) (fun k hk => absurd hk (Nat.not_lt_zero k))
      rw [hτ] at xR
      have xa : ∀ a, a ≠ 116 → (a < 549 ∨ 560 < a) → zup x 116 3 (nI f.2) a = v2 a := fun a q1 q2 => (p_up_a _ _ _ q1).trans ((xf.1 a q1 q2).trans (ya a q1))
      have xk : ∀ k, k ≠ 3 → k ≠ 4 → k ≠ 5 → k ≠ 6 → zup x 116 3 (nI f.2) 116 k = y 116 k := fun k q3 q4 q5 q6 => (p_up_n _ _ (Or.inr q3)).trans (xf.2 k q4 q5 q6)
      refine ⟨zup x 116 3 (nI f.2), ?_, (xk 0 (by decide) (by decide) (by decide) (by decide)).trans y0, fun a g => xa a (by omega) (by omega), IM_text ha hl hbk.1 hi b2 (fun a q1 q2 q3 q4 q5 q6 q7 q8 q9 q10 q11 => xa a (by omega) (by omega)) (fun k q0 q1 q2 q3 q4 q5 q6 q7 q8 q25 q27 => (xk k q3 q4 q5 q6).trans (yk k q0 q1 q2 q4 q5 q6 q7 q8)) ((xk 1 (by decide) (by decide) (by decide) (by decide)).trans y1) (p_up_s _ _ _ _)⟩
      rw [hy, show nI 0 = nI ([] : sB).length from rfl, hx]
      unfold fX10_book_178
      rw [if_neg (rdM_n xR), p_ends xR, zbind_some]
  | inl q =>
    rw [hτ] at tR
    have hbk' := tBk_ok (α := α) (L := tp.take n) 13 [] (.inl (tSk (tp.take n) 0)) q ⟨Nat.zero_le _, fun k hk => absurd hk (Nat.not_lt_zero k)⟩ rfl hτ (fun z => by omega)
    have hd := td q hτ
    generalize hβ : (tBk (tp.take n) (α 0 1) 13 [] (.inl (tSk (tp.take n) 0))).1 = β2 at hbk' hd
    have t2 : t 1 2 = nI 0 ∧ t 1 3 = -nI 1 := by obtain ⟨-, p0, -, -, k1, k2, -⟩ := tR; exact ⟨k1, k2⟩
    obtain ⟨s, hsC, sBk, sa⟩ := p_bookCopy hd hbk'.1
    have hs' : okS α l β2 ρ ρb im [] := ⟨ha, hl, hbk', hs.2.2.2.1, hs.2.2.2.2.1, hs.2.2.2.2.2.1, hs.2.2.2.2.2.2.1, Nat.zero_le _, fun k hk => absurd hk (Nat.not_lt_zero k)⟩
    have fa : ∀ a, a ≠ 1 → (a < 31 ∨ 36 < a) → s a = v a := fun a q1 q2 => (sa a (by omega) (by omega) (by omega)).trans (ta a q1 (by omega) (by omega) (by omega))
    have s1 : s 1 = t 1 := sa 1 (by decide) (by decide) (by decide)
    refine tl_G hs hs' hM (v1 := s) (r := nI β2.length) (pl' := -1) (r0' := r0) (r1' := r1) ?_ (fun a g1 g2 => fa a (by omega) (by omega)) ?_ (fun v2 b2 => ?_)
    · rw [hcl, t2.1, if_pos (show nI 0 = 0 from rfl), hsC, zbindv_some, sBk.1]
    · obtain ⟨a1, a2, a3, a4, ⟨a5, a6⟩, -, -, a10, a11⟩ := hI
      have e0 := fa 0 (by decide) (by decide)
      exact ⟨⟨CA_fr a1.1 (fun a g1 g2 => fa a (by omega) (by omega)), CL_fr a1.2 (fa 23 (by decide) (by decide)) (fa 24 (by decide) (by decide))⟩, sBk, RC_fr a3 (fun a g1 g2 => fa a (by omega) (by omega)), RC_fr a4 (fun a g1 g2 => fa a (by omega) (by omega)), ⟨by rw [e0]; exact a5, fun k hk => RC_fr (a6 k hk) (fun a g1 g2 => fa a (by omega) (by omega))⟩, ⟨by rw [s1]; exact t11, fun k hk => absurd hk (Nat.not_lt_zero k)⟩, by rw [s1]; exact t2.2, by rw [e0]; exact a10, by rw [e0]; exact a11⟩
    · obtain ⟨y, hy, yR, yX, y0, y1, ya, yk⟩ := Lr v2 b2
      obtain ⟨x, m, hx, xR, xq, xf⟩ := p_mBookL M16 13 zFU [] _ y rfl (by unfold zFU; omega) (fun _ _ => Nat.zero_le _) yR yX (by rw [ya 120 (by decide)]; exact b2.1.1.1 1 (by decide)) (fun k hk => absurd hk (Nat.not_lt_zero k))
      obtain ⟨hm, hE⟩ := xq q hτ
      rw [hβ] at hm hE
      rw [hτ] at xR
      have za : ∀ a, a ≠ 116 → zup (zup x 116 3 (-1)) 116 40 (nI m) a = x a := fun a g => by rw [p_up_a _ _ _ g, p_up_a _ _ _ g]
      have zk : ∀ k, k ≠ 3 → k ≠ 40 → zup (zup x 116 3 (-1)) 116 40 (nI m) 116 k = x 116 k := fun k g1 g2 => by rw [p_up_n _ _ (Or.inr g2), p_up_n _ _ (Or.inr g1)]
      have z3 : zup (zup x 116 3 (-1)) 116 40 (nI m) 116 3 = -1 := by rw [p_up_n _ _ (Or.inr (by decide)), p_up_s]
      have z40 : zup (zup x 116 3 (-1)) 116 40 (nI m) 116 40 = nI m := p_up_s _ _ _ _
      generalize hz : zup (zup x 116 3 (-1)) 116 40 (nI m) = z at za zk z3 z40
      obtain ⟨w, hw, w1, w2⟩ := p_lays (s := 548) (t := 535) (W := 2) (N := 12) (by decide) (by rw [l548]; exact Nat.le_refl _) (by rw [l535]; exact Nat.le_refl _) (fun k hk => rfa_548 k hk) (fun k hk => rfa_535 k hk) (fun k hk => lna_548 k hk) (fun k hk => lna_535 k hk) (Or.inr (by decide)) (m := m) (by rw [hm]; exact hbk'.1) z
      have m12 : m ≤ 12 := by rw [hm]; exact hbk'.1
      have wa : ∀ a, a ≠ 116 → (a < 536 ∨ 560 < a) → w a = v2 a := fun a q1 q2 => (w2 a (by omega)).trans ((za a q1).trans ((xf.1 a q1 (by omega)).trans (ya a q1)))
      have w116 : w 116 = z 116 := w2 116 (by omega)
      have wk : ∀ k, k ≠ 3 → k ≠ 40 → k ≠ 4 → k ≠ 5 → k ≠ 6 → w 116 k = y 116 k := fun k q1 q2 q3 q4 q5 => by rw [w116, zk k q1 q2, xf.2 k q3 q4 q5]
      refine ⟨w, ?_, (wk 0 (by decide) (by decide) (by decide) (by decide) (by decide)).trans y0, fun a g => wa a (by omega) (by omega), ?_⟩
      · rw [hy, show nI 0 = nI ([] : sB).length from rfl, hx]
        unfold fX10_book_178
        rw [rdM_0 xR, if_pos (show nI 0 = 0 from rfl), zlet_eq, zlet_eq, hz, rx_31, rx_30, hw, zbindv_some, hm]
      · obtain ⟨c1, c2, c3, c4, c5, ⟨h44, h46, h47⟩, c6, ⟨c7, c8⟩, -, c11, c12, c13⟩ := b2
        have kk : ∀ k, 8 < k → k ≠ 40 → w 116 k = v2 116 k := fun k q1 q2 => (wk k (by omega) q2 (by omega) (by omega) (by omega)).trans (yk k (by omega) (by omega) (by omega) (by omega) (by omega) (by omega) (by omega) (by omega))
        refine ⟨⟨MA_fr c1.1 ha (fun a g1 g2 => wa a (by omega) (by omega)), ML_fr c1.2 hl (kk 26 (by decide) (by decide)) (fun a g1 g2 => wa a (by omega) (by omega))⟩, ⟨by rw [w116, z40, hm], fun k hk => ?_⟩, MR_fr c3 (wa 567 (by decide) (by decide)), MR_fr c4 (wa 568 (by decide) (by decide)), MR_fr c5 (wa 569 (by decide) (by decide)), ⟨(kk 44 (by decide) (by decide)).trans h44, (kk 46 (by decide) (by decide)).trans h46, (kk 47 (by decide) (by decide)).trans h47⟩, (kk 41 (by decide) (by decide)).trans c6, ⟨(kk 42 (by decide) (by decide)).trans c7, fun k hk => MR_fr (c8 k hk) (wa (562 + k) (by omega) (by omega))⟩, ⟨(wk 1 (by decide) (by decide) (by decide) (by decide) (by decide)).trans y1, fun k hk => absurd hk (Nat.not_lt_zero k)⟩, by rw [w116, z3], by rw [wa 118 (by decide) (by decide)]; exact c12, by rw [wa 118 (by decide) (by decide)]; exact c13⟩
        have e1 := w1 k (by omega) 0 (by decide)
        have e2 := w1 k (by omega) 1 (by decide)
        have zz : z (549 + k) = x (549 + k) := za _ (by omega)
        rw [show 536 + k = 535 + 1 + k from rfl, e1, e2, show 548 + 1 + k = 549 + k from rfl, zz]
        exact hE k hk
end
