/-! ACADEMY: the reference's book of now is begun from what was read -/
section
theorem rx_14 : zrf 116 14 = 122 := by decide +kernel
theorem rx_18 : zrf 116 18 = 126 := by decide +kernel
theorem rx_20 : zrf 116 20 = 144 := by decide +kernel
theorem rx_22 : zrf 116 22 = 174 := by decide +kernel
theorem rx_24 : zrf 116 24 = 200 := by decide +kernel
theorem rx_37 : zrf 116 37 = 569 := by decide +kernel
theorem lS : zlen 120 = 6 ∧ zlen 122 = 6 ∧ zlen 124 = 16 ∧ zlen 126 = 12 ∧ zlen 569 = 305 := by decide +kernel
theorem stL (F : Nat → Int32 → zV → Option zV) (G : zV → Option zV) (s t N : Nat) (K : zV → Prop) (hst : s ≠ t) (hK : ∀ v j x, K v → K (zup v t j x)) (he : ∀ n v, K v → F (n + 1) (nI N) v = G v) (hs : ∀ n j v, K v → j < N → F (n + 1) (nI j) v = F n (nI (j + 1)) (zup v t j (v s j))) : ∀ (d n j : Nat) (v : zV), j + d = N → d < n → K v → (∀ i, i < j → v t i = v s i) → ∃ w, F n (nI j) v = G w ∧ K w ∧ (∀ i, i < N → w t i = v s i) ∧ ∀ a, a ≠ t → w a = v a := by
  intro d
  induction d with
  | zero =>
    intro n j v e hn h hc
    obtain ⟨n, rfl⟩ : ∃ k, n = k + 1 := ⟨n - 1, by omega⟩
    obtain rfl : j = N := by omega
    exact ⟨v, he n v h, h, hc, fun _ _ => rfl⟩
  | succ d ih =>
    intro n j v e hn h hc
    obtain ⟨n, rfl⟩ : ∃ k, n = k + 1 := ⟨n - 1, by omega⟩
    have ea : ∀ a, a ≠ t → zup v t j (v s j) a = v a := fun a g => p_up_a _ _ _ g
    have es := ea s hst
    obtain ⟨w, hw, wK, wc, wa⟩ := ih n (j + 1) (zup v t j (v s j)) (by omega) (by omega) (hK _ _ _ h) (fun i hi => by
      rw [es, up_at]
      by_cases g : i = j
      · rw [if_pos g, g]
      · rw [if_neg g]; exact hc i (by omega))
    exact ⟨w, (hs n j v h (by omega)).trans hw, wK, fun i hi => by rw [wc i hi, es], fun a g => (wa a g).trans (ea a g)⟩
theorem st_2 (v : zV) : ∃ w, fX10_stands 116 v = fX10_stands_28 zFU 116 0 w ∧ (∀ i, i < 6 → w 120 i = v 119 i) ∧ ∀ a, a ≠ 120 → w a = v a := by
  obtain ⟨w, hw, -, h1, h2⟩ := stL (fun n j v => fX10_stands_2 n 116 j v) (fX10_stands_28 zFU 116 0) 119 120 6 (fun _ => True) (by decide) (fun _ _ _ _ => trivial) (fun n v _ => by
    rw [fX10_stands_2]
    dsimp only
    rw [if_pos (show (6 : Int32) ≤ nI 6 from leY (a := 6) (by omega) (by omega) (by omega))]) (fun n j v _ hj => by
    rw [fX10_stands_2]
    dsimp only
    rw [if_neg (show ¬ (6 : Int32) ≤ nI j from leN (a := 6) (by omega) (by omega) (by omega)), rx_11, rx_12, lR.1, lS.1, zix_nI (by omega) (by omega), zix_nI (by omega) (by omega), nI_cl' (by omega), zlet_eq, show (nI j + 1 : Int32) = nI (j + 1) from nI_add _ 1]) 6 zFU 0 v rfl (by unfold zFU; omega) trivial (fun i hi => absurd hi (Nat.not_lt_zero i))
  exact ⟨w, hw, h1, h2⟩
theorem st_28 {α : sA} (ha : okA α) {v : zV} (h : v 120 0 = nI (α 0 0)) : ∃ w, fX10_stands_28 zFU 116 0 v = fX10_stands_58 zFU 116 0 w ∧ (∀ i, i < α 0 0 → w 122 i = v 121 i) ∧ ∀ a, a ≠ 122 → w a = v a := by
  have hb : α 0 0 ≤ 6 := ha.1.1
  obtain ⟨w, hw, -, h1, h2⟩ := stL (fun n j v => fX10_stands_28 n 116 j v) (fX10_stands_58 zFU 116 0) 121 122 (α 0 0) (fun v => v 120 0 = nI (α 0 0)) (by decide) (fun v j x q => by rw [p_up_a _ _ _ (by decide)]; exact q) (fun n v q => by
    rw [fX10_stands_28]
    dsimp only
    rw [rx_12, lS.1, show (0 : Int32) = nI 0 from rfl, zix_nI (by decide) (by decide), nI_cl' (by decide), q, if_pos (leY (by omega) (by omega) (by omega))]) (fun n j v q hj => by
    rw [fX10_stands_28]
    dsimp only
    rw [rx_12, lS.1, show (0 : Int32) = nI 0 from rfl, zix_nI (by decide) (by decide), nI_cl' (show 0 < 2 ^ 31 by decide), q, if_neg (leN (by omega) (by omega) (by omega)), rx_13, rx_14, lR.2.1, lS.2.1, zix_nI (by omega) (by omega), zix_nI (by omega) (by omega), nI_cl' (by omega), zlet_eq, show (nI j + 1 : Int32) = nI (j + 1) from nI_add _ 1]) (α 0 0) zFU 0 v (Nat.zero_add _) (by unfold zFU; omega) h (fun i hi => absurd hi (Nat.not_lt_zero i))
  exact ⟨w, hw, h1, h2⟩
theorem st_58 {α : sA} (ha : okA α) {v : zV} (h : v 120 1 = nI (α 0 1)) : ∃ w, fX10_stands_58 zFU 116 0 v = fX10_stands_88 zFU 116 0 w ∧ (∀ i, i < α 0 1 → w 124 i = v 123 i) ∧ ∀ a, a ≠ 124 → w a = v a := by
  have hb : α 0 1 ≤ 16 := ha.1.2.1
  obtain ⟨w, hw, -, h1, h2⟩ := stL (fun n j v => fX10_stands_58 n 116 j v) (fX10_stands_88 zFU 116 0) 123 124 (α 0 1) (fun v => v 120 1 = nI (α 0 1)) (by decide) (fun v j x q => by rw [p_up_a _ _ _ (by decide)]; exact q) (fun n v q => by
    rw [fX10_stands_58]
    dsimp only
    rw [rx_12, lS.1, show (1 : Int32) = nI 1 from rfl, zix_nI (by decide) (by decide), nI_cl' (by decide), q, if_pos (leY (by omega) (by omega) (by omega))]) (fun n j v q hj => by
    rw [fX10_stands_58]
    dsimp only
    rw [rx_12, lS.1, show (1 : Int32) = nI 1 from rfl, zix_nI (by decide) (by decide), nI_cl' (show 1 < 2 ^ 31 by decide), q, if_neg (leN (by omega) (by omega) (by omega)), rx_15, rx_16, lR.2.2.1, lS.2.2.1, zix_nI (by omega) (by omega), zix_nI (by omega) (by omega), nI_cl' (by omega), zlet_eq, show (nI j + nI 1 : Int32) = nI (j + 1) from nI_add _ 1]) (α 0 1) zFU 0 v (Nat.zero_add _) (by unfold zFU; omega) h (fun i hi => absurd hi (Nat.not_lt_zero i))
  exact ⟨w, hw, h1, h2⟩
theorem st_88 {α : sA} (ha : okA α) {v : zV} (h : v 120 3 = nI (α 0 3)) : ∃ w, fX10_stands_88 zFU 116 0 v = fX10_stands_116 116 w ∧ (∀ i, i < α 0 3 → w 126 i = v 125 i) ∧ ∀ a, a ≠ 126 → w a = v a := by
  have hb : α 0 3 ≤ 12 := (Nat.le_trans ha.1.2.2.2.2.1 ha.1.2.2.2.1)
  obtain ⟨w, hw, -, h1, h2⟩ := stL (fun n j v => fX10_stands_88 n 116 j v) (fX10_stands_116 116) 125 126 (α 0 3) (fun v => v 120 3 = nI (α 0 3)) (by decide) (fun v j x q => by rw [p_up_a _ _ _ (by decide)]; exact q) (fun n v q => by
    rw [fX10_stands_88]
    dsimp only
    rw [rx_12, lS.1, show (3 : Int32) = nI 3 from rfl, zix_nI (by decide) (by decide), nI_cl' (by decide), q, if_pos (leY (by omega) (by omega) (by omega))]) (fun n j v q hj => by
    rw [fX10_stands_88]
    dsimp only
    rw [rx_12, lS.1, show (3 : Int32) = nI 3 from rfl, zix_nI (by decide) (by decide), nI_cl' (show 3 < 2 ^ 31 by decide), q, if_neg (leN (by omega) (by omega) (by omega)), rx_17, rx_18, lR.2.2.2.1, lS.2.2.2.1, zix_nI (by omega) (by omega), zix_nI (by omega) (by omega), nI_cl' (by omega), zlet_eq, show (nI j + 1 : Int32) = nI (j + 1) from nI_add _ 1]) (α 0 3) zFU 0 v (Nat.zero_add _) (by unfold zFU; omega) h (fun i hi => absurd hi (Nat.not_lt_zero i))
  exact ⟨w, hw, h1, h2⟩
theorem st_116 {α : sA} (ha : okA α) {v : zV} (c1 : v 120 1 = nI (α 0 1)) (c4 : v 120 4 = nI (α 0 4)) (c5 : v 120 5 = nI (α 0 5)) : ∃ w, fX10_stands_116 116 v = fX10_stands_169 zFU 116 0 w ∧ (∀ m, m < α 0 1 → ∀ q, q < 6 → w (145 + m) q = v (128 + m) q) ∧ (∀ k, k < α 0 4 → ∀ j, j < 2 → w (175 + k) j = v (162 + k) j) ∧ (∀ k, k < α 0 5 → ∀ j, j < 3 → w (201 + k) j = v (188 + k) j) ∧ ∀ a, (a < 145 ∨ 160 < a) → (a < 175 ∨ 186 < a) → (a < 201 ∨ 212 < a) → w a = v a := by
  obtain ⟨⟨a0, a1, a2, a3, a4, a5, a6⟩, -⟩ := ha
  obtain ⟨v1, h1, b1, e1⟩ := p_lays (s := 127) (t := 144) (W := 6) (N := 16) (by decide) (by decide +kernel) (by decide +kernel) rfa_127 rfa_144 lna_127 lna_144 (by decide) a1 v
  obtain ⟨v2, h2, b2, e2⟩ := p_lays (s := 161) (t := 174) (W := 2) (N := 12) (by decide) (by decide +kernel) (by decide +kernel) rfa_161 rfa_174 lna_161 lna_174 (by decide) a5 v1
  obtain ⟨v3, h3, b3, e3⟩ := p_lays (s := 187) (t := 200) (W := 3) (N := 12) (by decide) (by decide +kernel) (by decide +kernel) rfa_187 rfa_200 lna_187 lna_200 (by decide) a6 v2
  have d4 : v1 120 4 = nI (α 0 4) := by rw [e1 120 (by omega)]; exact c4
  have d5 : v2 120 5 = nI (α 0 5) := by rw [e2 120 (by omega), e1 120 (by omega)]; exact c5
  refine ⟨v3, ?_, fun m hm q hq => ?_, fun k hk j hj => ?_, fun k hk j hj => ?_, fun a g1 g2 g3 => ?_⟩
  · unfold fX10_stands_116
    rw [rx_12, lS.1, rx_19, rx_20, rx_21, rx_22, rx_23, rx_24, show (1 : Int32) = nI 1 from rfl, zix_nI (by decide) (by decide), nI_cl' (show 1 < 2 ^ 31 by decide), c1, h1, zbindv_some, show (4 : Int32) = nI 4 from rfl, zix_nI (by decide) (by decide), nI_cl' (show 4 < 2 ^ 31 by decide), d4, h2, zbindv_some, show (5 : Int32) = nI 5 from rfl, zix_nI (by decide) (by decide), nI_cl' (show 5 < 2 ^ 31 by decide), d5, h3, zbindv_some]
  · rw [e3 (145 + m) (by omega), e2 (145 + m) (by omega)]; exact b1 m hm q hq
  · rw [e3 (175 + k) (by omega)]
    refine (b2 k hk j hj).trans ?_
    rw [e1 (161 + 1 + k) (by omega)]
  · refine (b3 k hk j hj).trans ?_
    rw [e2 (187 + 1 + k) (by omega), e1 (187 + 1 + k) (by omega)]
  · rw [e3 a (by omega), e2 a (by omega), e1 a (by omega)]
def stG (i : Nat) : Int32 := if 32 ≤ i ∧ i ≤ 47 then -1 else if i < 104 then 0 else -2
theorem st_169 : ∀ (d n j : Nat) (v : zV), j + d = 305 → d < n → (∀ i, i < j → v 569 i = stG i) → ∃ w, fX10_stands_169 n 116 (nI j) v = fX10_stands_217 zFU 116 0 w ∧ (∀ i, i < 305 → w 569 i = stG i) ∧ ∀ a, a ≠ 569 → w a = v a := by
  intro d
  induction d with
  | zero =>
    intro n j v e hn hc
    obtain ⟨n, rfl⟩ : ∃ k, n = k + 1 := ⟨n - 1, by omega⟩
    refine ⟨v, ?_, fun i hi => hc i (by omega), fun _ _ => rfl⟩
    rw [fX10_stands_169]
    dsimp only
    rw [if_pos (show (305 : Int32) ≤ nI j from leY (a := 305) (by omega) (by omega) (by omega))]
  | succ d ih =>
    intro n j v e hn hc
    obtain ⟨n, rfl⟩ : ∃ k, n = k + 1 := ⟨n - 1, by omega⟩
    obtain ⟨w, hw, wc, wa⟩ := ih n (j + 1) (zup v 569 j (stG j)) (by omega) (by omega) (fun i hi => by
      rw [up_at]
      by_cases g : i = j
      · rw [if_pos g, g]
      · rw [if_neg g]; exact hc i (by omega))
    refine ⟨w, ?_, wc, fun a g => (wa a g).trans (p_up_a _ _ _ g)⟩
    rw [← hw, fX10_stands_169]
    dsimp only
    rw [if_neg (show ¬ (305 : Int32) ≤ nI j from leN (a := 305) (by omega) (by omega) (by omega)), rx_37, lS.2.2.2.2, show (nI j + 1 : Int32) = nI (j + 1) from nI_add _ 1]
    unfold stG
    by_cases g : 32 ≤ j ∧ j ≤ 47
    · rw [show (32 : Int32) = nI 32 from rfl, show (47 : Int32) = nI 47 from rfl, pinY (a := 32) (b := 47) (by decide) (by decide) rfl rfl ⟨j, g.1, g.2, rfl⟩, zbind_some, if_neg (show ¬ (1 : Int32) = 0 by decide), zix_nI (by omega) (by omega), nI_cl' (by omega), zlet_eq, if_pos g]
    · rw [show (32 : Int32) = nI 32 from rfl, show (47 : Int32) = nI 47 from rfl, pinN (a := 32) (b := 47) (by decide) (by decide) rfl rfl (fun z => by obtain ⟨k, k1, k2, k3⟩ := z; exact g ((nI_eq (show j < 2 ^ 31 by omega) (show k < 2 ^ 31 by omega)).mp k3 ▸ ⟨k1, k2⟩)), zbind_some, if_pos rfl, if_neg g, zix_nI (by omega) (by omega), nI_cl' (by omega)]
      by_cases g2 : j < 104
      · rw [if_pos (show nI j < (104 : Int32) from (nI_ltI (b := 104) (by omega) (by omega)).mpr g2), zlet_eq, if_pos g2]
      · rw [if_neg (show ¬ nI j < (104 : Int32) from fun z => g2 ((nI_ltI (b := 104) (by omega) (by omega)).mp z)), zix_nI (by omega) (by omega), zlet_eq, if_neg g2]
theorem sOpen_0 (α : sA) : (∀ m, sWt (sOpen α) m = 0) ∧ ∀ m, sAs (sOpen α) m = 0 := by
  have L : ∀ d j (ρ : sR), ((∀ m, sWt ρ m = 0) ∧ ∀ m, sAs ρ m = 0) → (∀ m, sWt (zit (fun c ρ => sSit ρ (α 3 c) 0) d j ρ) m = 0) ∧ ∀ m, sAs (zit (fun c ρ => sSit ρ (α 3 c) 0) d j ρ) m = 0 := by
    intro d
    induction d with
    | zero => intro j ρ h; exact h
    | succ d ih => intro j ρ h; rw [zit]; exact ih (j + 1) (sSit ρ (α 3 j) 0) h
  exact L (α 0 3) 0 ([], (fun _ => 0), (fun _ => 0), (fun _ => -1), (fun k => if k = 0 then 1 else 0), (fun _ => 0)) ⟨fun _ => rfl, fun _ => rfl⟩
def stFa (α : sA) (j : Nat) (ρ : sR) (v : zV) : Prop := (∀ m, m < 16 → v 569 m = nI (sSt ρ m)) ∧ (∀ m, m < 16 → v 569 (32 + m) = sSn ρ m) ∧ (∀ c, c < j → v 569 (48 + c) = nI (α 3 c)) ∧ ∀ i, 16 ≤ i → i < 305 → (i < 32 ∨ 47 < i) → (i < 48 ∨ 60 < i) → v 569 i = stG i
theorem st_217 {α : sA} (ha : okA α) : ∀ (d n j : Nat) (ρ : sR) (v : zV), j + d = α 0 3 → d < n → v 120 3 = nI (α 0 3) → (∀ c, c < α 0 3 → v 126 c = nI (α 3 c)) → stFa α j ρ v → ∃ w, fX10_stands_217 n 116 (nI j) v = fX10_stands_277 116 w ∧ stFa α (α 0 3) (zit (fun c ρ => sSit ρ (α 3 c) 0) d j ρ) w ∧ ∀ a, a ≠ 569 → w a = v a := by
  have hC : α 0 3 ≤ 12 := Nat.le_trans ha.1.2.2.2.2.1 ha.1.2.2.2.1
  intro d
  induction d with
  | zero =>
    intro n j ρ v e hn h3 h6 hF
    obtain ⟨n, rfl⟩ : ∃ k, n = k + 1 := ⟨n - 1, by omega⟩
    obtain rfl : j = α 0 3 := by omega
    refine ⟨v, ?_, hF, fun _ _ => rfl⟩
    rw [fX10_stands_217]
    dsimp only
    rw [rx_12, lS.1, show (3 : Int32) = nI 3 from rfl, zix_nI (by decide) (by decide), nI_cl' (by decide), h3, if_pos (leY (by omega) (by omega) (by omega))]
  | succ d ih =>
    intro n j ρ v e hn h3 h6 hF
    obtain ⟨n, rfl⟩ : ∃ k, n = k + 1 := ⟨n - 1, by omega⟩
    have hm : α 3 j < 16 := Nat.lt_of_lt_of_le (ha.2.2.2.1 j (by omega)) ha.1.2.1
    have e1 : ∀ a, a ≠ 569 → zup v 569 (48 + j) (nI (α 3 j)) a = v a := fun a g => p_up_a _ _ _ g
    have e2 : ∀ a, a ≠ 569 → zup (zup v 569 (48 + j) (nI (α 3 j))) 569 (α 3 j) 1 a = v a := fun a g => (p_up_a _ _ _ g).trans (e1 a g)
    have e3 : ∀ a, a ≠ 569 → zup (zup (zup v 569 (48 + j) (nI (α 3 j))) 569 (α 3 j) 1) 569 (32 + α 3 j) 0 a = v a := fun a g => (p_up_a _ _ _ g).trans (e2 a g)
    have e4 : ∀ i, zup (zup (zup v 569 (48 + j) (nI (α 3 j))) 569 (α 3 j) 1) 569 (32 + α 3 j) 0 569 i = if i = 32 + α 3 j then 0 else if i = α 3 j then 1 else if i = 48 + j then nI (α 3 j) else v 569 i := fun i => by rw [up_at, up_at, up_at]
    obtain ⟨f1, f2, f3, f4⟩ := hF
    obtain ⟨w, hw, wF, wa⟩ := ih n (j + 1) (sSit ρ (α 3 j) 0) (zup (zup (zup v 569 (48 + j) (nI (α 3 j))) 569 (α 3 j) 1) 569 (32 + α 3 j) 0) (by omega) (by omega) (by rw [e3 120 (by decide)]; exact h3) (fun c hc => by rw [e3 126 (by decide)]; exact h6 c hc) ⟨fun m g => by
      rw [e4, if_neg (by omega)]
      show _ = nI (sUp (sSt ρ) (α 3 j) 1 m)
      by_cases q : m = α 3 j
      · rw [if_pos q, q, sUp_s]; rfl
      · rw [if_neg q, if_neg (by omega), sUp_n _ _ q]; exact f1 m g, fun m g => by
      rw [e4]
      show _ = sUp (sSn ρ) (α 3 j) (nI 0) m
      by_cases q : m = α 3 j
      · rw [if_pos (by omega), q, sUp_s]; rfl
      · rw [if_neg (by omega), if_neg (by omega), if_neg (by omega), sUp_n _ _ q]; exact f2 m g, fun c g => by
      rw [e4, if_neg (by omega), if_neg (by omega)]
      by_cases q : c = j
      · rw [if_pos (by omega), q]
      · rw [if_neg (by omega)]; exact f3 c (by omega), fun i g1 g2 g3 g4 => by
      rw [e4, if_neg (by omega), if_neg (by omega), if_neg (by omega)]
      exact f4 i g1 g2 g3 g4⟩
    refine ⟨w, ?_, wF, fun a g => (wa a g).trans (e3 a g)⟩
    rw [fX10_stands_217]
    dsimp only
    rw [rx_12, lS.1, rx_18, lS.2.2.2.1, rx_37, lS.2.2.2.2, show (3 : Int32) = nI 3 from rfl, zix_nI (by decide) (by decide), nI_cl' (show 3 < 2 ^ 31 by decide), h3, if_neg (leN (by omega) (by omega) (by omega)), zix_nI (show j < 12 by omega) (by omega), nI_cl' (show j < 2 ^ 31 by omega), show (48 : Int32) + nI j = nI (48 + j) from nI_add 48 j, zix_nI (show 48 + j < 305 by omega) (by omega), nI_cl' (show 48 + j < 2 ^ 31 by omega), h6 j (by omega), zlet_eq, zix_nI (show j < 12 by omega) (by omega), e1 126 (by decide), h6 j (by omega), show (0 : Int32) + nI (α 3 j) = nI (α 3 j) from Int32.zero_add _, zix_nI (show α 3 j < 305 by omega) (by omega), nI_cl' (show α 3 j < 2 ^ 31 by omega), zlet_eq, zix_nI (show j < 12 by omega) (by omega), e2 126 (by decide), h6 j (by omega), show (32 : Int32) + nI (α 3 j) = nI (32 + α 3 j) from nI_add 32 _, zix_nI (show 32 + α 3 j < 305 by omega) (by omega), nI_cl' (show 32 + α 3 j < 2 ^ 31 by omega), zlet_eq, show (nI j + 1 : Int32) = nI (j + 1) from nI_add _ 1]
    exact hw
theorem st_277 {α : sA} (ha : okA α) {v : zV} (h3 : v 120 3 = nI (α 0 3)) (hF : stFa α (α 0 3) (sOpen α) v) : ∃ w, fX10_stands_277 116 v = some w ∧ MR 567 w (sOpen α) ∧ MR 568 w (sOpen α) ∧ MR 569 w (sOpen α) ∧ w 116 26 = nI 0 ∧ w 116 40 = nI 0 ∧ w 116 41 = nI 0 ∧ w 116 42 = nI 0 ∧ (∀ a, a ≠ 116 → a ≠ 567 → a ≠ 568 → a ≠ 569 → w a = v a) ∧ ∀ k, k ≠ 26 → k ≠ 40 → k ≠ 41 → k ≠ 42 → w 116 k = v 116 k := by
  have hC : α 0 3 ≤ 12 := Nat.le_trans ha.1.2.2.2.2.1 ha.1.2.2.2.1
  obtain ⟨o1, o2, o3, o4⟩ := sOpen_at ha
  obtain ⟨o5, o6⟩ := sOpen_0 α
  have ol : (sCh (sOpen α)).length = α 0 3 := by rw [o1, List.length_map, List.length_range]
  obtain ⟨f1, f2, f3, f4⟩ := hF
  have e1 : ∀ a, a ≠ 569 → zup (zup v 569 61 (nI (α 0 3))) 569 99 1 a = v a := fun a g => (p_up_a _ _ _ g).trans (p_up_a _ _ _ g)
  have e2 : ∀ i, zup (zup v 569 61 (nI (α 0 3))) 569 99 1 569 i = if i = 99 then 1 else if i = 61 then nI (α 0 3) else v 569 i := fun i => by rw [up_at, up_at]
  have hR : MR 569 (zup (zup v 569 61 (nI (α 0 3))) 569 99 1) (sOpen α) := by
    have z5 : sSc (sOpen α) 5 = 0 := by rw [o4]; rfl
    have z0 : sSc (sOpen α) 0 = 1 := by rw [o4]; rfl
    refine ⟨⟨?_, ?_, ?_, ?_, ?_, ?_, ?_⟩, fun m hm => ?_, fun m hm => ?_, fun m hm => ?_, fun c hc => ?_, fun k hk => ?_, fun m hm => ?_, fun y y1 y2 => ?_, ?_, ?_⟩
    · rw [e2, ol]; rfl
    · rw [e2, if_neg (by decide), if_neg (by decide), f4 98 (by decide) (by decide) (by decide) (by decide), z5]; rfl
    · rw [e2, if_pos rfl, z0]; rfl
    · rw [e2, if_neg (by decide), if_neg (by decide), f4 100 (by decide) (by decide) (by decide) (by decide), o4]; rfl
    · rw [e2, if_neg (by decide), if_neg (by decide), f4 101 (by decide) (by decide) (by decide) (by decide), o4]; rfl
    · rw [e2, if_neg (by decide), if_neg (by decide), f4 102 (by decide) (by decide) (by decide) (by decide), o4]; rfl
    · rw [e2, if_neg (by decide), if_neg (by decide), f4 103 (by decide) (by decide) (by decide) (by decide), o4]; rfl
    · rw [e2, if_neg (by omega), if_neg (by omega)]; exact f1 m hm
    · rw [e2, if_neg (by omega), if_neg (by omega), f4 (16 + m) (by omega) (by omega) (by omega) (by omega), o5]
      unfold stG
      rw [if_neg (by omega), if_pos (by omega)]
      rfl
    · rw [e2, if_neg (by omega), if_neg (by omega)]; exact f2 m hm
    · rw [ol] at hc
      rw [e2, if_neg (by omega), if_neg (by omega), f3 c hc, o1]
      exact (congrArg nI (by rw [List.getD_eq_getElem?_getD, List.getElem?_map, List.getElem?_range hc]; rfl)).symm
    · rw [z5] at hk; omega
    · rw [z5, o6]; rfl
    · rw [e2, if_neg (by omega), if_neg (by omega), f4 (104 + y) (by omega) (by omega) (by omega) (by omega), z0, if_neg (by omega)]
      unfold stG
      rw [if_neg (by omega), if_neg (by omega)]
    · rw [ol]; omega
    · rw [z5]; decide
  obtain ⟨u, hu, hcp, hon⟩ := p_mCopies m567 m569 (by decide) (zup (zup v 569 61 (nI (α 0 3))) 569 99 1)
  have g1 : ∀ a, a ≠ 116 → zup (zup (zup u 116 26 0) 116 40 0) 116 42 0 a = u a := fun a g => by rw [p_up_a _ _ _ g, p_up_a _ _ _ g, p_up_a _ _ _ g]
  have g2 : ∀ k, zup (zup (zup u 116 26 0) 116 40 0) 116 42 0 116 k = if k = 42 then 0 else if k = 40 then 0 else if k = 26 then 0 else u 116 k := fun k => by rw [up_at, up_at, up_at]
  have h7 : MR 567 (zup (zup (zup u 116 26 0) 116 40 0) 116 42 0) (sOpen α) := MR_fr (MR_cp hR hcp) (g1 567 (by decide))
  obtain ⟨w, hw, w7, w8, w41, wa, wk⟩ := p_mSettles h7
  refine ⟨w, ?_, w7, w8, MR_fr hR ((wa 569 (by decide) (by decide)).trans ((g1 569 (by decide)).trans (hon 569 (by decide)))), (wk 26 (by decide)).trans ((g2 26).trans rfl), (wk 40 (by decide)).trans ((g2 40).trans rfl), w41, (wk 42 (by decide)).trans ((g2 42).trans rfl), fun a q1 q2 q3 q4 => (wa a q1 q3).trans ((g1 a q1).trans ((hon a q2).trans (e1 a q4))), fun k q1 q2 q3 q4 => (wk k q3).trans ((g2 k).trans ?_)⟩
  · unfold fX10_stands_277
    rw [rx_12, lS.1, rx_37, lS.2.2.2.2, show (3 : Int32) = nI 3 from rfl, zix_nI (by decide) (by decide), nI_cl' (show 3 < 2 ^ 31 by decide), h3, show (61 : Int32) = nI 61 from rfl, zix_nI (by decide) (by decide), nI_cl' (show 61 < 2 ^ 31 by decide), zlet_eq, show (99 : Int32) = nI 99 from rfl, zix_nI (by decide) (by decide), nI_cl' (show 99 < 2 ^ 31 by decide), zlet_eq, rf_116_35, hu, zbindv_some, zlet_eq, zlet_eq, zlet_eq, hw, zbindv_some]
  · rw [if_neg q4, if_neg q2, if_neg q1, hon 116 (by decide), e1 116 (by decide)]
/-- what was told, now held -/
theorem p_stands {α : sA} {fl : Bool} (ha : okA α) {v : zV} (h : eAc α fl v) : ∃ w, fX10_stands 116 v = some w ∧ pMA w α ∧ MR 567 w (sOpen α) ∧ MR 568 w (sOpen α) ∧ MR 569 w (sOpen α) ∧ w 116 26 = nI 0 ∧ w 116 40 = nI 0 ∧ w 116 41 = nI 0 ∧ w 116 42 = nI 0 ∧ (∀ a, a ≠ 116 → (a < 119 ∨ 212 < a) → a ≠ 567 → a ≠ 568 → a ≠ 569 → w a = v a) ∧ ∀ k, k ≠ 26 → k ≠ 40 → k ≠ 41 → k ≠ 42 → w 116 k = v 116 k := by
  obtain ⟨⟨a0, a1, a2, a3, a4, a5, a6⟩, -⟩ := id ha
  obtain ⟨h0, h1, h2, h3, h4, h5, h6, -⟩ := h
  obtain ⟨v1, z1, b1, e1⟩ := st_2 v
  have c : ∀ k, k < 6 → v1 120 k = nI (α 0 k) := fun k hk => by rw [b1 k hk]; exact h0 k hk
  obtain ⟨v2, z2, b2, e2⟩ := st_28 ha (c 0 (by decide))
  obtain ⟨v3, z3, b3, e3⟩ := st_58 ha (v := v2) (by rw [e2 120 (by decide)]; exact c 1 (by decide))
  obtain ⟨v4, z4, b4, e4⟩ := st_88 ha (v := v3) (by rw [e3 120 (by decide), e2 120 (by decide)]; exact c 3 (by decide))
  have e14 : ∀ a, a ≠ 120 → a ≠ 122 → a ≠ 124 → a ≠ 126 → v4 a = v a := fun a g1 g2 g3 g4 => by rw [e4 a g4, e3 a g3, e2 a g2, e1 a g1]
  have c4 : v4 120 = v1 120 := by rw [e4 120 (by decide), e3 120 (by decide), e2 120 (by decide)]
  obtain ⟨v5, z5, b51, b54, b55, e5⟩ := st_116 ha (v := v4) (by rw [c4]; exact c 1 (by decide)) (by rw [c4]; exact c 4 (by decide)) (by rw [c4]; exact c 5 (by decide))
  obtain ⟨v6, z6, b6, e6⟩ := st_169 305 zFU 0 v5 rfl (by unfold zFU; omega) (fun i hi => absurd hi (Nat.not_lt_zero i))
  have c6 : v6 120 = v1 120 := by rw [e6 120 (by decide), e5 120 (by omega) (by omega) (by omega), c4]
  have s6 : ∀ c, c < α 0 3 → v6 126 c = nI (α 3 c) := fun c hc => by
    rw [e6 126 (by decide), e5 126 (by omega) (by omega) (by omega), b4 c hc, e3 125 (by decide), e2 125 (by decide), e1 125 (by decide)]
    exact h3 c hc
  obtain ⟨v7, z7, b7, e7⟩ := st_217 ha (α 0 3) zFU 0 ([], (fun _ => 0), (fun _ => 0), (fun _ => -1), (fun k => if k = 0 then 1 else 0), (fun _ => 0)) v6 (Nat.zero_add _) (by unfold zFU; omega) (by rw [c6]; exact c 3 (by decide)) s6 ⟨fun m hm => by
    rw [b6 m (by omega)]
    unfold stG
    rw [if_neg (by omega), if_pos (by omega)]
    rfl, fun m hm => by
    rw [b6 (32 + m) (by omega)]
    unfold stG
    rw [if_pos (by omega)]
    rfl, fun c hc => absurd hc (Nat.not_lt_zero c), fun i g1 g2 g3 g4 => b6 i g2⟩
  obtain ⟨w, z8, w7, w8, w9, k26, k40, k41, k42, wa, wk⟩ := st_277 ha (v := v7) (by rw [e7 120 (by decide), c6]; exact c 3 (by decide)) b7
  have f7 : ∀ a, a ≠ 116 → a ≠ 567 → a ≠ 568 → a ≠ 569 → w a = v5 a := fun a g1 g2 g3 g4 => by rw [wa a g1 g2 g3 g4, e7 a g4, e6 a g4]
  refine ⟨w, ?_, ⟨fun k hk => ?_, fun q hq => ?_, fun m hm => ?_, fun c hc => ?_, fun m hm q hq => ?_, fun k hk j hj => ?_, fun k hk j hj => ?_⟩, w7, w8, w9, k26, k40, k41, k42, fun a g1 g2 g3 g4 g5 => ?_, fun k g1 g2 g3 g4 => ?_⟩
  · have hz : (0 : Int32) = nI 0 := rfl
    rw [z1, z2, z3, z4, z5, hz, z6, hz, z7, z8]
  · rw [wa 120 (by decide) (by decide) (by decide) (by decide), e7 120 (by decide), c6]; exact c k hk
  · rw [f7 122 (by decide) (by decide) (by decide) (by decide), e5 122 (by omega) (by omega) (by omega), e4 122 (by decide), e3 122 (by decide), b2 q hq, e1 121 (by decide)]; exact h1 q hq
  · rw [f7 124 (by decide) (by decide) (by decide) (by decide), e5 124 (by omega) (by omega) (by omega), e4 124 (by decide), b3 m hm, e2 123 (by decide), e1 123 (by decide)]; exact h2 m hm
  · rw [wa 126 (by decide) (by decide) (by decide) (by decide), e7 126 (by decide)]; exact s6 c hc
  · rw [f7 (145 + m) (by omega) (by omega) (by omega) (by omega), b51 m hm q (by omega), e14 (128 + m) (by omega) (by omega) (by omega) (by omega)]; exact h4 m hm q hq
  · rw [f7 (175 + k) (by omega) (by omega) (by omega) (by omega), b54 k hk j hj, e14 (162 + k) (by omega) (by omega) (by omega) (by omega)]; exact h5 k hk j hj
  · rw [f7 (201 + k) (by omega) (by omega) (by omega) (by omega), b55 k hk j hj, e14 (188 + k) (by omega) (by omega) (by omega) (by omega)]; exact h6 k hk j hj
  · rw [f7 a g1 g3 g4 g5, e5 a (by omega) (by omega) (by omega), e14 a (by omega) (by omega) (by omega) (by omega)]
  · rw [wk k g1 g2 g3 g4, e7 116 (by decide), e6 116 (by decide), e5 116 (by omega) (by omega) (by omega), e14 116 (by decide) (by decide) (by decide) (by decide)]
end
