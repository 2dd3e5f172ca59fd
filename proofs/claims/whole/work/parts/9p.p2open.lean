/-! A TEXT IS OPENED: what all three readers share -/
section
theorem bA_take {tp : List Nat} {n i : Nat} (h : i < n) : bA (tp.take n) i = tp.getD i 0 := by
  unfold bA
  rw [List.getD_eq_getElem?_getD, List.getD_eq_getElem?_getD, List.getElem?_take, if_pos h]
theorem len_take {tp : List Nat} {n : Nat} (h : n ≤ tp.length) : (tp.take n).length = n := by
  rw [List.length_take]
  exact Nat.min_eq_left h
/-- the class opens n bytes -/
theorem p_openY {tp : List Nat} {v : zV} (h : tpC tp v) (hb : ∀ k, k < tp.length → tp.getD k 0 < 256) (h6 : tp.length ≤ 600) {n cap : Nat} (hn : n ≤ tp.length) (hc : n ≤ cap) (hc2 : cap ≤ 600) : ∃ w, fX9_openText 0 (nI n) (nI cap) v = some (0, 0, w) ∧ rdC (tp.take n) (.inl (tSk (tp.take n) 0)) w ∧ w 1 1 = nI 0 ∧ ∀ a, a ≠ 1 → w a = v a := by
  have hin : inB (nI n) 0 (min cap tp.length) := ⟨n, Nat.zero_le _, Nat.le_min.mpr ⟨hc, hn⟩, rfl⟩
  refine ⟨zup (zup (zup (zup (zup v 1 1 0) 1 4 (nI n)) 1 5 0) 1 2 0) 1 3 (-1), ?_, ⟨⟨by rw [len_take hn]; omega, ?_, fun i hi => ?_⟩, 0, Nat.zero_le _, ?_, ?_, ?_, rfl⟩, ?_, fun a g => ?_⟩
  · unfold fX9_openText
    rw [rf_0_0, h.1, zmin_nI (by omega) (by omega), pwY (x := nI n) (lo := 0) (hi := nI (min cap tp.length)) (a := 0) (b := min cap tp.length) (by decide) (by omega) rfl rfl hin, zbind_some, pneedY, zbx_0]
    unfold fX8_open
    rw [zlet_eq, zlet_eq, zlet_eq, zlet_eq, zlet_eq, zbindv_some]
  · rw [p_up_n _ _ (Or.inr (by decide)), p_up_n _ _ (Or.inr (by decide)), p_up_n _ _ (Or.inr (by decide)), p_up_s, len_take hn]
  · rw [len_take hn] at hi
    rw [bA_take hi, p_up_a _ _ _ (by decide), p_up_a _ _ _ (by decide), p_up_a _ _ _ (by decide), p_up_a _ _ _ (by decide), p_up_a _ _ _ (by decide)]
    exact ⟨h.2 i (by omega), hb i (by omega)⟩
  · rw [p_up_n _ _ (Or.inr (by decide)), p_up_n _ _ (Or.inr (by decide)), p_up_s]
    rfl
  · rw [p_up_n _ _ (Or.inr (by decide)), p_up_s]
    rfl
  · rw [p_up_s]
    rfl
  · rw [p_up_n _ _ (Or.inr (by decide)), p_up_n _ _ (Or.inr (by decide)), p_up_n _ _ (Or.inr (by decide)), p_up_n _ _ (Or.inr (by decide)), p_up_s]
    rfl
  · rw [p_up_a _ _ _ g, p_up_a _ _ _ g, p_up_a _ _ _ g, p_up_a _ _ _ g, p_up_a _ _ _ g]
theorem p_openN {tp : List Nat} {v : zV} (h : tpC tp v) (h6 : tp.length ≤ 600) {x : Int32} {cap : Nat} (hc2 : cap ≤ 600) (hx : ¬ inB x 0 (min cap tp.length)) : fX9_openText 0 x (nI cap) v = some (2, 0, zup v 0 16 (v 0 16 + 1)) := by
  unfold fX9_openText
  rw [rf_0_0, h.1, zmin_nI (by omega) (by omega), pwN (x := x) (lo := 0) (hi := nI (min cap tp.length)) (a := 0) (b := min cap tp.length) (by decide) (by omega) rfl rfl hx, zbind_some, pneedN, zbx_2]
/-- the reference starts -/
theorem p_starts {tp : List Nat} {v : zV} (h : tpM tp v) (hb : ∀ k, k < tp.length → tp.getD k 0 < 256) (h6 : tp.length ≤ 600) {n : Nat} (hn : n ≤ tp.length) : ∃ w, fX10_starts 116 (nI n) v = some w ∧ rdM (tp.take n) (.inl (tSk (tp.take n) 0)) w ∧ exM (.inl (tSk (tp.take n) 0)) w ∧ w 116 1 = nI 0 ∧ w 116 7 = nI 0 ∧ w 116 8 = nI 0 ∧ (∀ a, a ≠ 116 → w a = v a) ∧ ∀ k, k ≠ 1 → k ≠ 2 → k ≠ 4 → k ≠ 5 → k ≠ 6 → k ≠ 7 → k ≠ 8 → w 116 k = v 116 k := by
  have e : ∀ k, (zup (zup (zup (zup (zup (zup (zup v 116 1 0) 116 2 (nI n)) 116 4 0) 116 5 0) 116 6 (-1)) 116 7 0) 116 8 0) 116 k = if k = 8 then 0 else if k = 7 then 0 else if k = 6 then -1 else if k = 5 then 0 else if k = 4 then 0 else if k = 2 then nI n else if k = 1 then 0 else v 116 k := fun k => by
    simp only [p_up, true_and]
  have ea : ∀ a, a ≠ 116 → (zup (zup (zup (zup (zup (zup (zup v 116 1 0) 116 2 (nI n)) 116 4 0) 116 5 0) 116 6 (-1)) 116 7 0) 116 8 0) a = v a := fun a g => by
    rw [p_up_a _ _ _ g, p_up_a _ _ _ g, p_up_a _ _ _ g, p_up_a _ _ _ g, p_up_a _ _ _ g, p_up_a _ _ _ g, p_up_a _ _ _ g]
  unfold fX10_starts
  rw [zlet_eq, zlet_eq, zlet_eq, zlet_eq, zlet_eq, zlet_eq, zlet_eq]
  generalize (zup (zup (zup (zup (zup (zup (zup v 116 1 0) 116 2 (nI n)) 116 4 0) 116 5 0) 116 6 (-1)) 116 7 0) 116 8 0) = u at e ea
  have uR : rdM (tp.take n) (.inl (tSk (tp.take n) 0)) u := by
    refine ⟨⟨by rw [len_take hn]; omega, by rw [e 2, len_take hn]; rfl, fun i hi => ?_⟩, 0, Nat.zero_le _, by rw [e 4]; rfl, by rw [e 5]; rfl, by rw [e 6]; rfl, rfl⟩
    rw [len_take hn] at hi
    rw [bA_take hi, ea 117 (by decide)]
    exact ⟨h.2 i (by omega), hb i (by omega)⟩
  obtain ⟨w, hw, wR, wX, wa, wk⟩ := p_blanks uR
  refine ⟨w, by rw [hw, zbindv_some], wR, wX, by rw [wk 1 (by decide), e 1]; rfl, by rw [wk 7 (by decide), e 7]; rfl, by rw [wk 8 (by decide), e 8]; rfl, fun a g => (wa a g).trans (ea a g), fun k g1 g2 g4 g5 g6 g7 g8 => ?_⟩
  rw [wk k g4, e k, if_neg g8, if_neg g7, if_neg g6, if_neg g5, if_neg g4, if_neg g2, if_neg g1]
/-- rows are laid over -/
theorem p_lays10 {s t W : Nat} {k : Nat} (hk : k < zlen s) (hk2 : k < zlen t) (hk3 : k < 1000) (es : zrf s k = s + 1 + k) (et : zrf t k = t + 1 + k) (ls : zlen (s + 1 + k) = W) (lt : zlen (t + 1 + k) = W) (hst : s + 1 + k ≠ t + 1 + k) (K : Nat → Nat → Int32 → Int32 → zV → Option zV) (m : Int32) : ∀ (d n j : Nat) (v : zV), j + d = W → d < n → ∃ w, fX10_lays_10 K n s t m (nI k) (nI j) v = K s t m (nI (k + 1)) w ∧ (∀ i, j ≤ i → i < W → w (t + 1 + k) i = v (s + 1 + k) i) ∧ (∀ i, i < j → w (t + 1 + k) i = v (t + 1 + k) i) ∧ ∀ a, a ≠ t + 1 + k → w a = v a := by
  have hW : W < 1000 := by rw [← ls]; exact p_len _
  intro d
  induction d with
  | zero =>
    intro n j v e hn
    obtain ⟨n, rfl⟩ : ∃ q, n = q + 1 := ⟨n - 1, by omega⟩
    refine ⟨v, ?_, fun i h1 h2 => by omega, fun _ _ => rfl, fun _ _ => rfl⟩
    rw [fX10_lays_10]
    dsimp only
    rw [zix_nI hk2 (by omega), nI_cl' (by omega), et, lt, if_pos (show Int32.ofNat W ≤ nI j from leY (by omega) (by omega) (by omega)), show (nI k + 1 : Int32) = nI (k + 1) from nI_add _ 1]
  | succ d ih =>
    intro n j v e hn
    obtain ⟨n, rfl⟩ : ∃ q, n = q + 1 := ⟨n - 1, by omega⟩
    obtain ⟨w, hw, w1, w2, wa⟩ := ih n (j + 1) (zup v (t + 1 + k) j (v (s + 1 + k) j)) (by omega) (by omega)
    refine ⟨w, ?_, fun i h1 h2 => ?_, fun i h1 => ?_, fun a g => (wa a g).trans (p_up_a _ _ _ g)⟩
    · rw [fX10_lays_10]
      dsimp only
      rw [zix_nI hk2 (by omega), nI_cl' (show k < 2 ^ 31 by omega), et, lt, if_neg (show ¬ Int32.ofNat W ≤ nI j from leN (by omega) (by omega) (by omega)), zix_nI hk2 (by omega), zix_nI hk (by omega), es, ls, zix_nI (show j < W by omega) (by omega), zix_nI (show j < W by omega) (by omega), nI_cl' (show j < 2 ^ 31 by omega), zlet_eq, show (nI j + 1 : Int32) = nI (j + 1) from nI_add _ 1, hw]
    · by_cases c : i = j
      · rw [c, w2 j (by omega), p_up_s]
      · rw [w1 i (by omega) h2, p_up_a _ _ _ (by omega)]
    · rw [w2 i (by omega), p_up_n _ _ (Or.inr (by omega))]
theorem p_lays {s t W N : Nat} (hN : N < 500) (hk : N ≤ zlen s) (hk2 : N ≤ zlen t) (es : ∀ k, k < N → zrf s k = s + 1 + k) (et : ∀ k, k < N → zrf t k = t + 1 + k) (ls : ∀ k, k < N → zlen (s + 1 + k) = W) (lt : ∀ k, k < N → zlen (t + 1 + k) = W) (hst : s + N < t ∨ t + N < s) {m : Nat} (hm : m ≤ N) (v : zV) : ∃ w, fX10_lays s t (nI m) v = some w ∧ (∀ k, k < m → ∀ i, i < W → w (t + 1 + k) i = v (s + 1 + k) i) ∧ ∀ a, (a < t + 1 ∨ t + 1 + m ≤ a) → w a = v a := by
  have L : ∀ (d n k : Nat) (u : zV), k + d = m → d < n → (∀ j, j < k → ∀ i, i < W → u (t + 1 + j) i = v (s + 1 + j) i) → (∀ a, (a < t + 1 ∨ t + 1 + m ≤ a) → u a = v a) → (∀ j, k ≤ j → j < m → u (s + 1 + j) = v (s + 1 + j)) → ∃ w, fX10_lays_2 n s t (nI m) (nI k) u = some w ∧ (∀ k, k < m → ∀ i, i < W → w (t + 1 + k) i = v (s + 1 + k) i) ∧ ∀ a, (a < t + 1 ∨ t + 1 + m ≤ a) → w a = v a := by
    intro d
    induction d with
    | zero =>
      intro n k u e hn h1 h2 h3
      obtain ⟨n, rfl⟩ : ∃ q, n = q + 1 := ⟨n - 1, by omega⟩
      obtain rfl : k = m := by omega
      refine ⟨u, ?_, h1, h2⟩
      rw [fX10_lays_2]
      dsimp only
      rw [if_pos (Int32.le_refl _)]
    | succ d ih =>
      intro n k u e hn h1 h2 h3
      obtain ⟨n, rfl⟩ : ∃ q, n = q + 1 := ⟨n - 1, by omega⟩
      have hW : W < 1000 := by rw [← ls k (by omega)]; exact p_len _
      obtain ⟨x, hx, x1, -, xa⟩ := p_lays10 (s := s) (t := t) (W := W) (k := k) (by omega) (by omega) (by omega) (es k (by omega)) (et k (by omega)) (ls k (by omega)) (lt k (by omega)) (by omega) (fX10_lays_2 n) (nI m) W zFU 0 u (Nat.zero_add _) (by unfold zFU; omega)
      obtain ⟨w, hw, w1, w2⟩ := ih n (k + 1) x (by omega) (by omega) (fun j hj i hi => by
        by_cases c : j = k
        · rw [c, x1 i (Nat.zero_le _) hi, h3 k (Nat.le_refl _) (by omega)]
        · rw [xa _ (by omega)]; exact h1 j (by omega) i hi) (fun a g => (xa a (by omega)).trans (h2 a g)) (fun j g1 g2 => (xa _ (by omega)).trans (h3 j (by omega) g2))
      refine ⟨w, ?_, w1, w2⟩
      rw [fX10_lays_2]
      dsimp only
      rw [if_neg (leN (a := m) (b := k) (by omega) (by omega) (by omega)), show fX10_lays_10 (fX10_lays_2 n) zFU s t (nI m) (nI k) 0 u = fX10_lays_10 (fX10_lays_2 n) zFU s t (nI m) (nI k) (nI 0) u from rfl, hx, hw]
  unfold fX10_lays
  exact L m zFU 0 v (Nat.zero_add _) (by unfold zFU; omega) (fun j hj => absurd hj (Nat.not_lt_zero j)) (fun _ _ => rfl) (fun _ _ _ => rfl)
/-- a text was read, and nothing came of it -/
theorem IC_text {α : sA} {l : sL} {β : sB} {ρ ρb : sR} {im : List sR} {tp : List Nat} {pl r0 r1 pl' : Int32} {v w : zV} (hi : im.length ≤ 3) (h : pIC α l β ρ ρb im tp pl r0 r1 v) (e : ∀ a, a < 116 → a ≠ 1 → (a < 13 ∨ 22 < a) → (a < 27 ∨ 30 < a) → (a < 34 ∨ 36 < a) → w a = v a) (h1 : w 1 1 = nI 0) (h3 : w 1 3 = pl') : pIC α l β ρ ρb im [] pl' r0 r1 w := by
  obtain ⟨a1, a2, a3, a4, ⟨a5, a6⟩, -, -, a10, a11⟩ := h
  have e0 := e 0 (by decide) (by decide) (by decide) (by decide) (by decide)
  exact ⟨⟨CA_fr a1.1 (fun a g1 g2 => e a (by omega) (by omega) (by omega) (by omega) (by omega)), CL_fr a1.2 (e 23 (by decide) (by decide) (by decide) (by decide) (by decide)) (e 24 (by decide) (by decide) (by decide) (by decide) (by decide))⟩, CB_fr a2 (fun a g1 g2 => e a (by omega) (by omega) (by omega) (by omega) (by omega)), RC_fr a3 (fun a g1 g2 => e a (by omega) (by omega) (by omega) (by omega) (by omega)), RC_fr a4 (fun a g1 g2 => e a (by omega) (by omega) (by omega) (by omega) (by omega)), ⟨by rw [e0]; exact a5, fun k hk => RC_fr (a6 k hk) (fun a g1 g2 => e a (by omega) (by omega) (by omega) (by omega) (by omega))⟩, ⟨h1, fun k hk => absurd hk (Nat.not_lt_zero k)⟩, h3, by rw [e0]; exact a10, by rw [e0]; exact a11⟩
theorem IM_text {α : sA} {l : sL} {β : sB} {ρ ρb : sR} {im : List sR} {tp : List Nat} {pl r0 r1 pl' : Int32} {v w : zV} (ha : okA α) (hl : okL l) (hb : β.length ≤ 12) (hi : im.length ≤ 3) (h : pIM α l β ρ ρb im tp pl r0 r1 v) (e : ∀ a, 116 < a → a ≠ 119 → a ≠ 121 → a ≠ 123 → a ≠ 125 → (a < 127 ∨ 143 < a) → (a < 161 ∨ 173 < a) → (a < 187 ∨ 199 < a) → (a < 374 ∨ 534 < a) → (a < 548 ∨ 560 < a) → a < 570 → w a = v a) (e2 : ∀ k, k ≠ 0 → k ≠ 1 → k ≠ 2 → k ≠ 3 → k ≠ 4 → k ≠ 5 → k ≠ 6 → k ≠ 7 → k ≠ 8 → k ≠ 25 → k ≠ 27 → w 116 k = v 116 k) (g1 : w 116 1 = nI 0) (g3 : w 116 3 = pl') : pIM α l β ρ ρb im [] pl' r0 r1 w := by
  obtain ⟨h1, h2, h3, h4, h5, ⟨h44, h46, h47⟩, h6, ⟨h7, h8⟩, -, -, h12, h13⟩ := h
  have ee : ∀ a, 116 < a → a ≠ 119 → a ≠ 121 → a ≠ 123 → a ≠ 125 → (a < 127 ∨ 143 < a) → (a < 161 ∨ 173 < a) → (a < 187 ∨ 199 < a) → (a < 374 ∨ 534 < a) → (a < 548 ∨ 560 < a) → a < 570 → w a = v a := e
  have k2 : ∀ k, 25 < k → k ≠ 27 → w 116 k = v 116 k := fun k q1 q2 => e2 k (by omega) (by omega) (by omega) (by omega) (by omega) (by omega) (by omega) (by omega) (by omega) (by omega) q2
  have e118 : w 118 = v 118 := e 118 (by decide) (by decide) (by decide) (by decide) (by decide) (by decide) (by decide) (by decide) (by decide) (by decide) (by decide)
  have hi2 : ∀ a, 561 ≤ a → a < 570 → w a = v a := fun a q1 q2 => e a (by omega) (by omega) (by omega) (by omega) (by omega) (by omega) (by omega) (by omega) (by omega) (by omega) q2
  refine ⟨⟨?_, ML_fr h1.2 hl (k2 26 (by decide) (by decide)) (fun a q1 q2 => e a (by omega) (by omega) (by omega) (by omega) (by omega) (by omega) (by omega) (by omega) (by omega) (by omega) (by omega))⟩, MB_fr h2 hb (k2 40 (by decide) (by decide)) (fun a q1 q2 => e a (by omega) (by omega) (by omega) (by omega) (by omega) (by omega) (by omega) (by omega) (by omega) (by omega) (by omega)), MR_fr h3 (hi2 567 (by decide) (by decide)), MR_fr h4 (hi2 568 (by decide) (by decide)), MR_fr h5 (hi2 569 (by decide) (by decide)), ⟨(k2 44 (by decide) (by decide)).trans h44, (k2 46 (by decide) (by decide)).trans h46, (k2 47 (by decide) (by decide)).trans h47⟩, (k2 41 (by decide) (by decide)).trans h6, ⟨(k2 42 (by decide) (by decide)).trans h7, fun k hk => MR_fr (h8 k hk) (hi2 (562 + k) (by omega) (by omega))⟩, ⟨g1, fun k hk => absurd hk (Nat.not_lt_zero k)⟩, g3, by rw [e118]; exact h12, by rw [e118]; exact h13⟩
  obtain ⟨b0, b1, b2, b3, b4, b5, b6⟩ := h1.1
  obtain ⟨⟨c1, c2, -, c4, c5, c6, c7⟩, -, -, -, -, -, -⟩ := ha
  have E : ∀ a, 116 < a → a < 214 → a ≠ 119 → a ≠ 121 → a ≠ 123 → a ≠ 125 → (a < 127 ∨ 143 < a) → (a < 161 ∨ 173 < a) → (a < 187 ∨ 199 < a) → w a = v a := fun a q1 q2 q3 q4 q5 q6 q7 q8 q9 => e a q1 q3 q4 q5 q6 q7 q8 q9 (by omega) (by omega) (by omega)
  refine ⟨fun k hk => ?_, fun k hk => ?_, fun k hk => ?_, fun k hk => ?_, fun k hk q hq => ?_, fun k hk j hj => ?_, fun k hk j hj => ?_⟩
  · rw [E 120 (by omega) (by omega) (by omega) (by omega) (by omega) (by omega) (by omega) (by omega) (by omega)]; exact b0 k hk
  · rw [E 122 (by omega) (by omega) (by omega) (by omega) (by omega) (by omega) (by omega) (by omega) (by omega)]; exact b1 k hk
  · rw [E 124 (by omega) (by omega) (by omega) (by omega) (by omega) (by omega) (by omega) (by omega) (by omega)]; exact b2 k hk
  · rw [E 126 (by omega) (by omega) (by omega) (by omega) (by omega) (by omega) (by omega) (by omega) (by omega)]; exact b3 k hk
  · rw [E _ (by omega) (by omega) (by omega) (by omega) (by omega) (by omega) (by omega) (by omega) (by omega)]; exact b4 k hk q hq
  · rw [E _ (by omega) (by omega) (by omega) (by omega) (by omega) (by omega) (by omega) (by omega) (by omega)]; exact b5 k hk j hj
  · rw [E _ (by omega) (by omega) (by omega) (by omega) (by omega) (by omega) (by omega) (by omega) (by omega)]; exact b6 k hk j hj
end
