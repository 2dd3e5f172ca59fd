/-! BELIEFS, the reference -/
section
/-- what the tries may change -/
def FB (m Q : Nat) (v w : zV) : Prop := (∀ a, a ≠ 116 → a ≠ 565 → a ≠ 566 → a ≠ 571 → a ≠ 576 → a ≠ 600 → a ≠ 601 → a ≠ 145 + m → w a = v a) ∧ (∀ q, Q ≤ q → w (145 + m) q = v (145 + m) q) ∧ ∀ k, k ≠ 48 → k ≠ 50 → k ≠ 57 → k ≠ 58 → w 116 k = v 116 k
theorem FB_rf (m Q : Nat) (v : zV) : FB m Q v v := ⟨fun _ _ _ _ _ _ _ _ _ => rfl, fun _ _ => rfl, fun _ _ _ _ _ => rfl⟩
theorem FB_tr {m Q : Nat} {v w u : zV} (h1 : FB m Q v w) (h2 : FB m Q w u) : FB m Q v u := ⟨fun a g1 g2 g3 g4 g5 g6 g7 g8 => (h2.1 a g1 g2 g3 g4 g5 g6 g7 g8).trans (h1.1 a g1 g2 g3 g4 g5 g6 g7 g8), fun q g => (h2.2.1 q g).trans (h1.2.1 q g), fun k g1 g2 g3 g4 => (h2.2.2 k g1 g2 g3 g4).trans (h1.2.2 k g1 g2 g3 g4)⟩
theorem FB_M {m Q : Nat} (hm : m < 16) {v w : zV} (h : onlyM 571 v w) : FB m Q v w := ⟨fun a g1 g2 g3 g4 g5 _ _ _ => h.1 a g4 g2 g3 g5 g1, fun q _ => by rw [h.1 (145 + m) (by omega) (by omega) (by omega) (by omega) (by omega)], fun k g1 g2 _ _ => h.2 k g1 g2⟩
theorem FB_row {m Q : Nat} (hm : m < 16) {v w : zV} (h : ∀ a, a ≠ 145 + m → w a = v a) (h2 : ∀ q, Q ≤ q → w (145 + m) q = v (145 + m) q) : FB m Q v w := ⟨fun a _ _ _ _ _ _ _ g => h a g, h2, fun k _ _ _ _ => by rw [h 116 (by omega)]⟩
theorem FB_601 {m Q : Nat} (hm : m < 16) {v w : zV} (h : ∀ a, a ≠ 601 → w a = v a) : FB m Q v w := ⟨fun a _ _ _ _ _ _ g _ => h a g, fun q _ => by rw [h (145 + m) (by omega)], fun k _ _ _ _ => by rw [h 116 (by omega)]⟩
theorem FB_k {m Q : Nat} (hm : m < 16) {k : Nat} (hk : k = 57 ∨ k = 58) (v : zV) (x : Int32) : FB m Q v (zup v 116 k x) := ⟨fun a g _ _ _ _ _ _ _ => p_up_a _ _ _ g, fun q _ => by rw [p_up_a _ _ _ (by omega)], fun j _ _ g3 g4 => p_up_n _ _ (Or.inr (by omega))⟩
theorem MDq_with {v w : zV} {α : sA} {l : sL} {β : sB} (ha : okA α) (hl : okL l) (hb : okBk α β) (h : MDq v α l β none) {m : Nat} (hm : m < α 0 1) (e : FB m (α 0 0) v w) (x : Nat) (hx : ∀ q, q < α 0 0 → w (145 + m) q = nI (dgBl (α 1) (α 0 0) x q)) : MDq w (sWith α m x) l β none := by
  have hM := ha.1.2.1
  have e1 : ∀ a, a < 565 → a ≠ 116 → a ≠ 145 + m → w a = v a := fun a g1 g2 g3 => e.1 a g2 (by omega) (by omega) (by omega) (by omega) (by omega) (by omega) g3
  have e2 : ∀ k, k < 48 → w 116 k = v 116 k := fun k g => e.2.2 k (by omega) (by omega) (by omega) (by omega)
  obtain ⟨⟨⟨h0, h1, h2, h3, h4, h5, h6⟩, hL⟩, hB, hR, h44, h46, h47⟩ := h
  refine ⟨⟨?_, ML_fr hL hl (e2 26 (by decide)) (fun a g1 g2 => e1 a (by omega) (by omega) (by omega))⟩, MB_fr hB hb.1 (e2 40 (by decide)) (fun a g1 g2 => e1 a (by omega) (by omega) (by omega)), ?_, (e2 44 (by decide)).trans h44, (e2 46 (by decide)).trans h46, (e2 47 (by decide)).trans h47⟩
  · unfold pMA
    rw [sWith_0, sWith_1, sWith_3, sWith_n α m x (i := 2) (by omega), e1 120 (by decide) (by decide) (by omega), e1 122 (by decide) (by decide) (by omega), e1 124 (by decide) (by decide) (by omega), e1 126 (by decide) (by decide) (by omega)]
    have hd := ha.1.2.2.2.2.2.1
    have hp := ha.1.2.2.2.2.2.2
    refine ⟨h0, h1, h2, h3, fun j hj q hq => ?_, fun k hk i hi => ?_, fun k hk i hi => ?_⟩
    · by_cases c : j = m
      · rw [c, sWith_s]
        exact hx q hq
      · rw [sWith_n α m x (by omega), e1 (145 + j) (by omega) (by omega) (by omega)]
        exact h4 j hj q hq
    · rw [sWith_n α m x (by omega), e1 (175 + k) (by omega) (by omega) (by omega)]
      exact h5 k hk i hi
    · rw [sWith_n α m x (by omega), e1 (201 + k) (by omega) (by omega) (by omega)]
      exact h6 k hk i hi
  · rw [sOpen_with]
    exact MR_fr hR (e.1 569 (by decide) (by decide) (by decide) (by decide) (by decide) (by decide) (by decide) (by omega))
/-- the sides of one try are laid -/
theorem p_mDig {α : sA} (ha : okA α) (K : Nat → Int32 → Int32 → Int32 → zV → Option zV) {m : Nat} (hm : m < α 0 1) (x2 x3 : Int32) : ∀ (k n x c t : Nat) (w : zV), k ≤ α 0 0 → k < n → x < 1000 → (∀ q, q < α 0 0 → w 122 q = nI (α 1 q)) → ∃ u, fX10_laysBeliefs_87 K n 116 (nI m) x2 x3 (nI x) (nI c) (nI t) (nI k - 1) w = fX10_laysBeliefs_153 K 116 (nI m) x2 x3 (nI (c + t * dcBl (dgBl (α 1) k x) k)) u ∧ (∀ q, q < k → u (145 + m) q = nI (dgBl (α 1) k x q)) ∧ (∀ q, k ≤ q → u (145 + m) q = w (145 + m) q) ∧ ∀ a, a ≠ 145 + m → u a = w a := by
  have hM := ha.1.2.1
  have hQ := ha.1.1
  have hs := okA_side ha
  have ra := rfa_144 m (by omega)
  have la := lna_144 m (by omega)
  intro k
  induction k with
  | zero =>
    intro n x c t w hk hn hx h122
    obtain ⟨n, rfl⟩ : ∃ k, n = k + 1 := ⟨n - 1, by omega⟩
    refine ⟨w, ?_, fun q hq => absurd hq (Nat.not_lt_zero q), fun _ _ => rfl, fun _ _ => rfl⟩
    rw [fX10_laysBeliefs_87]
    dsimp only
    rw [if_pos (by decide), dcBl, Nat.mul_zero, Nat.add_zero]
  | succ k ih =>
    intro n x c t w hk hn hx h122
    obtain ⟨n, rfl⟩ : ∃ k, n = k + 1 := ⟨n - 1, by omega⟩
    have h0 := (hs k (by omega)).1
    have h3 := (hs k (by omega)).2
    have hq := h122 k (by omega)
    have hdv : x / α 1 k ≤ x := Nat.div_le_self _ _
    obtain ⟨u, hu, g1, g2, g3⟩ := ih n (x / α 1 k) (c + t * (x % α 1 k)) (t * 10) (zup w (145 + m) k (nI (x % α 1 k))) (by omega) (by omega) (by omega) (fun q hq => by rw [p_up_a _ _ _ (by omega)]; exact h122 q hq)
    refine ⟨u, ?_, fun q hq => ?_, fun q hq => ?_, fun a g => (g3 a g).trans (p_up_a _ _ _ g)⟩
    · rw [show nI (k + 1) - 1 = nI k from nI_pred k, fX10_laysBeliefs_87]
      dsimp only
      rw [if_neg (nI_pos (by omega))]
      have eu : (zup w (145 + m) k (nI (x % α 1 k))) 122 k = nI (α 1 k) := by rw [p_up_a _ _ _ (by omega)]; exact hq
      have es : (zup w (145 + m) k (nI (x % α 1 k))) (145 + m) k = nI (x % α 1 k) := p_up_s _ _ _ _
      have hz : ∀ {β : Type} (y : Option β), znz (nI (α 1 k)) y = y := fun y => if_neg (nI_ne0 h0 (by omega))
      have er := pk_rem (a := x) (d := α 1 k) (by omega) h0 (by omega)
      have ed := pk_div (a := x) (d := α 1 k) (by omega) h0 (by omega)
      simp (disch := omega) only [rf_116_9, rf_116_10, rf_116_11, rf_116_12, rf_116_13, rf_116_14, rf_116_15, rf_116_16, rf_116_17, rf_116_18, rf_116_19, rf_116_20, rf_116_21, rf_116_22, rf_116_23, rf_116_24, rf_116_28, rf_116_29, rf_116_30, rf_116_31, rf_116_32, rf_116_33, rf_116_34, rf_116_35, rf_116_36, rf_116_37, rf_116_38, rf_116_39, rf_116_43, rf_116_49, rf_116_51, rf_116_54, rf_116_55, rf_116_56, rf_116_59, ln_127, ln_144, ln_161, ln_174, ln_187, ln_200, ln_213, ln_374, ln_535, ln_548, ln_561, ln_572, ln_577, ln_582, ln_117, ln_118, ln_119, ln_120, ln_121, ln_122, ln_123, ln_124, ln_125, ln_126, ln_565, ln_566, ln_567, ln_568, ln_569, ln_570, ln_571, ln_576, ln_600, ln_601, ln_602, ln_603, ra, la, nI_cl', zix_nI, hq, hz, zlet_eq]
      simp only [er]
      simp only [eu, es, hz, ed]
      rw [show (10 : Int32) = nI 10 from rfl, pk_mul, pk_mul, nI_add, show nI k + (-1 : Int32) = nI k - 1 from (Int32.sub_eq_add_neg _ _).symm, hu, dcBl, dgB_top, decB_cg (f := dgBl (α 1) (k + 1) x) (g := dgBl (α 1) k (x / α 1 k)) k (fun q hq => dgB_low hq)]
      rw [show c + t * (x % α 1 k) + t * 10 * dcBl (dgBl (α 1) k (x / α 1 k)) k = c + t * (dcBl (dgBl (α 1) k (x / α 1 k)) k * 10 + x % α 1 k) by rw [Nat.mul_add, ← Nat.mul_assoc, Nat.mul_right_comm]; omega]
    · by_cases e : q = k
      · rw [e, g2 k (Nat.le_refl _), p_up_s, dgB_top]
      · rw [g1 q (by omega), dgB_low (by omega)]
    · rw [g2 q (by omega), p_up_n _ _ (Or.inr (by omega))]
/-- what is always so, a way more -/
theorem p_mAlw {α : sA} (ha : okA α) (K : Nat → Int32 → Int32 → Int32 → zV → Option zV) {m : Nat} (hm : m < α 0 1) (x2 : Int32) (j0 : Nat) {b sn : Nat → Nat} (hb : ∀ q, q < α 0 0 → b q < 3) (hsn : ∀ q, sn q < 8) {w : zV} (h120 : w 120 0 = nI (α 0 0)) (hw : ∀ q, q < α 0 0 → w (145 + m) q = nI (b q)) (h601 : ∀ q, q < α 0 0 → w 601 q = agB (sn q)) : ∃ u, fX10_laysBeliefs_200 K zFU 116 (nI m) x2 (nI j0) (nI 0) w = K 116 (nI m) x2 (nI (j0 + 1)) u ∧ (∀ q, q < α 0 0 → u 601 q = agB (sn q ||| 2 ^ b q)) ∧ ∀ a, a ≠ 601 → u a = w a := by
  have hM := ha.1.2.1
  have hQ := ha.1.1
  have ra := rfa_144 m (by omega)
  have la := lna_144 m (by omega)
  have key : ∀ d n j (u : zV), j + d = α 0 0 → d < n → (∀ q, q < j → u 601 q = agB (sn q ||| 2 ^ b q)) → (∀ q, j ≤ q → q < α 0 0 → u 601 q = agB (sn q)) → (∀ a, a ≠ 601 → u a = w a) → ∃ t, fX10_laysBeliefs_200 K n 116 (nI m) x2 (nI j0) (nI j) u = K 116 (nI m) x2 (nI (j0 + 1)) t ∧ (∀ q, q < α 0 0 → t 601 q = agB (sn q ||| 2 ^ b q)) ∧ ∀ a, a ≠ 601 → t a = w a := by
    intro d
    induction d with
    | zero =>
      intro n j u e hn g1 g2 g3
      obtain ⟨n, rfl⟩ : ∃ k, n = k + 1 := ⟨n - 1, by omega⟩
      obtain rfl : j = α 0 0 := by omega
      refine ⟨u, ?_, g1, g3⟩
      have e0 : u 120 0 = nI (α 0 0) := by rw [g3 120 (by decide)]; exact h120
      rw [fX10_laysBeliefs_200]
      dsimp only
      simp (disch := omega) only [↓reduceIte, i_0, i_1, i_2, i_3, i_4, i_5, i_6, i_7, i_8, i_9, i_10, i_11, i_12, i_13, i_14, i_15, i_16, i_17, i_18, i_19, i_20, i_21, i_22, i_23, i_24, i_25, i_26, i_27, i_28, i_29, i_30, i_31, i_32, i_33, i_34, i_35, i_36, i_37, i_38, i_39, i_40, i_41, i_42, i_43, i_44, i_45, i_46, i_47, i_48, i_49, i_50, i_51, i_52, i_53, i_54, i_55, i_56, i_57, i_58, i_59, i_60, i_61, i_62, i_63, i_91, i_93, i_97, i_98, i_99, i_100, i_101, i_102, i_103, i_104, i_122, i_150, i_200, i_255, i_305, i_600, i_729, i_999, i_1365, i_12345, i_32767, i_65536, i_100000, i_1000000, i_1103515245, zlet_eq, zbind_some, zbindv_some, ofN_nI, nI_add, pk_mul, nI_sub', nI_addg, gg_sub, nI_cl', zix_nI, rf_116_9, rf_116_10, rf_116_11, rf_116_12, rf_116_13, rf_116_14, rf_116_15, rf_116_16, rf_116_17, rf_116_18, rf_116_19, rf_116_20, rf_116_21, rf_116_22, rf_116_23, rf_116_24, rf_116_28, rf_116_29, rf_116_30, rf_116_31, rf_116_32, rf_116_33, rf_116_34, rf_116_35, rf_116_36, rf_116_37, rf_116_38, rf_116_39, rf_116_43, rf_116_49, rf_116_51, rf_116_54, rf_116_55, rf_116_56, rf_116_59, ln_127, ln_144, ln_161, ln_174, ln_187, ln_200, ln_213, ln_374, ln_535, ln_548, ln_561, ln_572, ln_577, ln_582, ln_117, ln_118, ln_119, ln_120, ln_121, ln_122, ln_123, ln_124, ln_125, ln_126, ln_565, ln_566, ln_567, ln_568, ln_569, ln_570, ln_571, ln_576, ln_600, ln_601, ln_602, ln_603, e0]
      rw [if_pos (Int32.le_refl _)]
    | succ d ih =>
      intro n j u e hn g1 g2 g3
      obtain ⟨n, rfl⟩ : ∃ k, n = k + 1 := ⟨n - 1, by omega⟩
      have hj : j < α 0 0 := by omega
      have e0 : u 120 0 = nI (α 0 0) := by rw [g3 120 (by decide)]; exact h120
      have e1 : u 601 j = agB (sn j) := g2 j (Nat.le_refl _) hj
      have e2 : u (145 + m) j = nI (b j) := by rw [g3 (145 + m) (by omega)]; exact hw j hj
      have nx : ∀ y, y = agB (sn j ||| 2 ^ b j) → ∃ t, fX10_laysBeliefs_200 K n 116 (nI m) x2 (nI j0) (nI (j + 1)) (zup u 601 j y) = K 116 (nI m) x2 (nI (j0 + 1)) t ∧ (∀ q, q < α 0 0 → t 601 q = agB (sn q ||| 2 ^ b q)) ∧ ∀ a, a ≠ 601 → t a = w a := by
        intro y hy
        refine ih n (j + 1) _ (by omega) (by omega) (fun q hq => ?_) (fun q hq1 hq2 => ?_) (fun a g => (p_up_a _ _ _ g).trans (g3 a g))
        · rw [p_up]
          by_cases c : q = j
          · rw [c, if_pos ⟨rfl, rfl⟩]; exact hy
          · rw [if_neg (fun g => c g.2)]; exact g1 q (by omega)
        · rw [p_up_n _ _ (Or.inr (by omega))]; exact g2 q (by omega) hq2
      have hst := agB_step (sn j) (hsn j) (b j) (hb j hj)
      rw [fX10_laysBeliefs_200]
      dsimp only
      simp (disch := omega) only [↓reduceIte, i_0, i_1, i_2, i_3, i_4, i_5, i_6, i_7, i_8, i_9, i_10, i_11, i_12, i_13, i_14, i_15, i_16, i_17, i_18, i_19, i_20, i_21, i_22, i_23, i_24, i_25, i_26, i_27, i_28, i_29, i_30, i_31, i_32, i_33, i_34, i_35, i_36, i_37, i_38, i_39, i_40, i_41, i_42, i_43, i_44, i_45, i_46, i_47, i_48, i_49, i_50, i_51, i_52, i_53, i_54, i_55, i_56, i_57, i_58, i_59, i_60, i_61, i_62, i_63, i_91, i_93, i_97, i_98, i_99, i_100, i_101, i_102, i_103, i_104, i_122, i_150, i_200, i_255, i_305, i_600, i_729, i_999, i_1365, i_12345, i_32767, i_65536, i_100000, i_1000000, i_1103515245, zlet_eq, zbind_some, zbindv_some, ofN_nI, nI_add, pk_mul, nI_sub', nI_addg, gg_sub, nI_cl', zix_nI, rf_116_9, rf_116_10, rf_116_11, rf_116_12, rf_116_13, rf_116_14, rf_116_15, rf_116_16, rf_116_17, rf_116_18, rf_116_19, rf_116_20, rf_116_21, rf_116_22, rf_116_23, rf_116_24, rf_116_28, rf_116_29, rf_116_30, rf_116_31, rf_116_32, rf_116_33, rf_116_34, rf_116_35, rf_116_36, rf_116_37, rf_116_38, rf_116_39, rf_116_43, rf_116_49, rf_116_51, rf_116_54, rf_116_55, rf_116_56, rf_116_59, ln_127, ln_144, ln_161, ln_174, ln_187, ln_200, ln_213, ln_374, ln_535, ln_548, ln_561, ln_572, ln_577, ln_582, ln_117, ln_118, ln_119, ln_120, ln_121, ln_122, ln_123, ln_124, ln_125, ln_126, ln_565, ln_566, ln_567, ln_568, ln_569, ln_570, ln_571, ln_576, ln_600, ln_601, ln_602, ln_603, e0]
      rw [if_neg (nI_ge hj (by omega))]
      simp (disch := omega) only [ra, la, nI_cl', zix_nI, e1, e2, zlet_eq]
      by_cases c1 : agB (sn j) = -nI 9
      · rw [if_pos c1]
        rw [if_pos c1] at hst
        exact nx _ hst
      · rw [if_neg c1]
        rw [if_neg c1] at hst
        by_cases c2 : agB (sn j) = nI (b j)
        · rw [if_pos c2]
          rw [if_pos c2] at hst
          exact nx _ hst
        · rw [if_neg c2]
          rw [if_neg c2] at hst
          exact nx _ hst
  exact key (α 0 0) zFU 0 w (Nat.zero_add _) (by unfold zFU; omega) (fun q hq => absurd hq (Nat.not_lt_zero q)) (fun q _ hq => h601 q hq) (fun _ _ => rfl)
/-- the man believes again what he believed -/
theorem p_mBack {α : sA} (ha : okA α) {m : Nat} (hm : m < α 0 1) {g : Nat → Int32} {w : zV} (h120 : w 120 0 = nI (α 0 0)) (h600 : ∀ q, q < α 0 0 → w 600 q = g q) : ∃ u, fX10_laysBeliefs_276 zFU 116 (nI m) (nI 0) w = some u ∧ (∀ q, q < α 0 0 → u (145 + m) q = g q) ∧ (∀ q, α 0 0 ≤ q → u (145 + m) q = w (145 + m) q) ∧ ∀ a, a ≠ 145 + m → u a = w a := by
  have hM := ha.1.2.1
  have hQ := ha.1.1
  have ra := rfa_144 m (by omega)
  have la := lna_144 m (by omega)
  refine lpR (σ := Unit) (fun n j _ v => fX10_laysBeliefs_276 n 116 (nI m) (nI j) v) (fun _ x => x) (α 0 0) (fun j _ u => (∀ q, q < j → u (145 + m) q = g q) ∧ (∀ q, j ≤ q → u (145 + m) q = w (145 + m) q) ∧ ∀ a, a ≠ 145 + m → u a = w a) (fun _ u => (∀ q, q < α 0 0 → u (145 + m) q = g q) ∧ (∀ q, α 0 0 ≤ q → u (145 + m) q = w (145 + m) q) ∧ ∀ a, a ≠ 145 + m → u a = w a) (fun n1 _ u hK => ?_) (fun n1 j _ u hj hK => ?_) (α 0 0) zFU 0 () w (Nat.zero_add _) (by unfold zFU; omega) ⟨fun q hq => absurd hq (Nat.not_lt_zero q), fun _ _ => rfl, fun _ _ => rfl⟩
  · refine ⟨u, ?_, hK⟩
    show fX10_laysBeliefs_276 (n1 + 1) 116 (nI m) (nI (α 0 0)) u = some u
    have e0 : u 120 0 = nI (α 0 0) := by rw [hK.2.2 120 (by omega)]; exact h120
    rw [fX10_laysBeliefs_276]
    dsimp only
    simp (disch := omega) only [↓reduceIte, i_0, i_1, i_2, i_3, i_4, i_5, i_6, i_7, i_8, i_9, i_10, i_11, i_12, i_13, i_14, i_15, i_16, i_17, i_18, i_19, i_20, i_21, i_22, i_23, i_24, i_25, i_26, i_27, i_28, i_29, i_30, i_31, i_32, i_33, i_34, i_35, i_36, i_37, i_38, i_39, i_40, i_41, i_42, i_43, i_44, i_45, i_46, i_47, i_48, i_49, i_50, i_51, i_52, i_53, i_54, i_55, i_56, i_57, i_58, i_59, i_60, i_61, i_62, i_63, i_91, i_93, i_97, i_98, i_99, i_100, i_101, i_102, i_103, i_104, i_122, i_150, i_200, i_255, i_305, i_600, i_729, i_999, i_1365, i_12345, i_32767, i_65536, i_100000, i_1000000, i_1103515245, zlet_eq, zbind_some, zbindv_some, ofN_nI, nI_add, pk_mul, nI_sub', nI_addg, gg_sub, nI_cl', zix_nI, rf_116_9, rf_116_10, rf_116_11, rf_116_12, rf_116_13, rf_116_14, rf_116_15, rf_116_16, rf_116_17, rf_116_18, rf_116_19, rf_116_20, rf_116_21, rf_116_22, rf_116_23, rf_116_24, rf_116_28, rf_116_29, rf_116_30, rf_116_31, rf_116_32, rf_116_33, rf_116_34, rf_116_35, rf_116_36, rf_116_37, rf_116_38, rf_116_39, rf_116_43, rf_116_49, rf_116_51, rf_116_54, rf_116_55, rf_116_56, rf_116_59, ln_127, ln_144, ln_161, ln_174, ln_187, ln_200, ln_213, ln_374, ln_535, ln_548, ln_561, ln_572, ln_577, ln_582, ln_117, ln_118, ln_119, ln_120, ln_121, ln_122, ln_123, ln_124, ln_125, ln_126, ln_565, ln_566, ln_567, ln_568, ln_569, ln_570, ln_571, ln_576, ln_600, ln_601, ln_602, ln_603, e0]
    rw [if_pos (Int32.le_refl _)]
  · show ∃ t, fX10_laysBeliefs_276 (n1 + 1) 116 (nI m) (nI j) u = fX10_laysBeliefs_276 n1 116 (nI m) (nI (j + 1)) t ∧ _
    obtain ⟨g1, g2, g3⟩ := hK
    have e0 : u 120 0 = nI (α 0 0) := by rw [g3 120 (by omega)]; exact h120
    have e6 : u 600 j = g j := by rw [g3 600 (by omega)]; exact h600 j hj
    rw [fX10_laysBeliefs_276]
    dsimp only
    simp (disch := omega) only [↓reduceIte, i_0, i_1, i_2, i_3, i_4, i_5, i_6, i_7, i_8, i_9, i_10, i_11, i_12, i_13, i_14, i_15, i_16, i_17, i_18, i_19, i_20, i_21, i_22, i_23, i_24, i_25, i_26, i_27, i_28, i_29, i_30, i_31, i_32, i_33, i_34, i_35, i_36, i_37, i_38, i_39, i_40, i_41, i_42, i_43, i_44, i_45, i_46, i_47, i_48, i_49, i_50, i_51, i_52, i_53, i_54, i_55, i_56, i_57, i_58, i_59, i_60, i_61, i_62, i_63, i_91, i_93, i_97, i_98, i_99, i_100, i_101, i_102, i_103, i_104, i_122, i_150, i_200, i_255, i_305, i_600, i_729, i_999, i_1365, i_12345, i_32767, i_65536, i_100000, i_1000000, i_1103515245, zlet_eq, zbind_some, zbindv_some, ofN_nI, nI_add, pk_mul, nI_sub', nI_addg, gg_sub, nI_cl', zix_nI, rf_116_9, rf_116_10, rf_116_11, rf_116_12, rf_116_13, rf_116_14, rf_116_15, rf_116_16, rf_116_17, rf_116_18, rf_116_19, rf_116_20, rf_116_21, rf_116_22, rf_116_23, rf_116_24, rf_116_28, rf_116_29, rf_116_30, rf_116_31, rf_116_32, rf_116_33, rf_116_34, rf_116_35, rf_116_36, rf_116_37, rf_116_38, rf_116_39, rf_116_43, rf_116_49, rf_116_51, rf_116_54, rf_116_55, rf_116_56, rf_116_59, ln_127, ln_144, ln_161, ln_174, ln_187, ln_200, ln_213, ln_374, ln_535, ln_548, ln_561, ln_572, ln_577, ln_582, ln_117, ln_118, ln_119, ln_120, ln_121, ln_122, ln_123, ln_124, ln_125, ln_126, ln_565, ln_566, ln_567, ln_568, ln_569, ln_570, ln_571, ln_576, ln_600, ln_601, ln_602, ln_603, e0]
    rw [if_neg (nI_ge hj (by omega))]
    simp (disch := omega) only [ra, la, nI_cl', zix_nI, e6, zlet_eq]
    refine ⟨_, rfl, fun q hq => ?_, fun q hq => ?_, fun a g => (p_up_a _ _ _ g).trans (g3 a g)⟩
    · rw [p_up]
      by_cases c : q = j
      · rw [c, if_pos ⟨rfl, rfl⟩]
      · rw [if_neg (fun g => c g.2)]; exact g1 q (by omega)
    · rw [p_up_n _ _ (Or.inr (by omega))]; exact g2 q (by omega)
/-- the tries in their course -/
def KMt (v0 : zV) (α : sA) (m j : Nat) (s : sTR) (w : zV) : Prop := okTR α j s ∧ FB m (α 0 0) v0 w ∧ (∀ q, q < α 0 0 → w 600 q = v0 (145 + m) q) ∧ (∀ q, q < α 0 0 → w 601 q = agB (s.2.2 q)) ∧ w 116 57 = nI s.1 ∧ w 116 58 = s.2.1
def QMt (v0 : zV) (α : sA) (s : sTR) (w : zV) : Prop := frM v0 w ∧ (∀ q, q < α 0 0 → w 601 q = agB (s.2.2 q)) ∧ w 116 57 = nI s.1 ∧ w 116 58 = s.2.1
theorem p_mTry63 {α : sA} {l : sL} {β : sB} (ha : okA α) (hl : okL l) (hb : okBk α β) {m : Nat} (hm : m < α 0 1) {v0 : zV} (h : MDq v0 α l β none) {v : zV} {s : sTR} (hk : KMt v0 α m 0 s v) : ∃ w, fX10_laysBeliefs_63 zFU 116 (nI m) (nI (prBl (α 1) (α 0 0))) (nI 0) v = some w ∧ QMt v0 α (zit (sTryS α l β m) (prBl (α 1) (α 0 0)) 0 s) w := by
  have hN := prB_729 ha
  have hM := ha.1.2.1
  have hQ := ha.1.1
  have hs := okA_side ha
  have hL := hb.1
  refine lpR (σ := sTR) (fun n j _ v => fX10_laysBeliefs_63 n 116 (nI m) (nI (prBl (α 1) (α 0 0))) (nI j) v) (sTryS α l β m) (prBl (α 1) (α 0 0)) (KMt v0 α m) (QMt v0 α) (fun n1 s w hK => ?_) (fun n1 j s w hj hK => ?_) (prBl (α 1) (α 0 0)) zFU 0 s v (Nat.zero_add _) (by unfold zFU; omega) hk
  · obtain ⟨hok, hF, h600, h601, h57, h58⟩ := hK
    have h120 : w 120 0 = nI (α 0 0) := by rw [hF.1 120 (by decide) (by decide) (by decide) (by decide) (by decide) (by decide) (by decide) (by omega)]; exact h.1.1.1 0 (by decide)
    obtain ⟨u, hu, g1, g2, g3⟩ := p_mBack ha hm h120 h600
    refine ⟨u, ?_, ⟨fun a k1 k2 k3 k4 => ?_, fun k k1 k2 k3 k4 k5 k6 k7 => ?_⟩, fun q hq => by rw [g3 601 (by omega)]; exact h601 q hq, by rw [g3 116 (by omega)]; exact h57, by rw [g3 116 (by omega)]; exact h58⟩
    · show fX10_laysBeliefs_63 (n1 + 1) 116 (nI m) (nI (prBl (α 1) (α 0 0))) (nI (prBl (α 1) (α 0 0))) w = some u
      rw [fX10_laysBeliefs_63]
      dsimp only
      rw [if_pos (Int32.le_refl _)]
      exact hu
    · by_cases c : a = 145 + m
      · rw [c]
        funext q
        rcases Nat.lt_or_ge q (α 0 0) with c2 | c2
        · exact g1 q c2
        · exact (g2 q c2).trans (hF.2.1 q c2)
      · exact (g3 a c).trans (hF.1 a k1 k2 k3 (by omega) (by omega) (by omega) (by omega) c)
    · rw [g3 116 (by omega)]
      exact hF.2.2 k k2 k3 k6 k7
  · obtain ⟨hok, hF, h600, h601, h57, h58⟩ := hK
    have hok1 := okTR_s ha l β m j hok
    have h120 : w 120 0 = nI (α 0 0) := by rw [hF.1 120 (by decide) (by decide) (by decide) (by decide) (by decide) (by decide) (by decide) (by omega)]; exact h.1.1.1 0 (by decide)
    have h122 : ∀ q, q < α 0 0 → w 122 q = nI (α 1 q) := fun q hq => by rw [hF.1 122 (by decide) (by decide) (by decide) (by decide) (by decide) (by decide) (by decide) (by omega)]; exact h.1.1.2.1 q hq
    have hdl : ∀ q, q < α 0 0 → dgBl (α 1) (α 0 0) j q < 3 := fun q hq => by
      have h1 := dgB_lt (s := α 1) (α 0 0) j q (fun q hq => (hs q hq).1) hq
      have := (hs q hq).2
      omega
    show ∃ u, fX10_laysBeliefs_63 (n1 + 1) 116 (nI m) (nI (prBl (α 1) (α 0 0))) (nI j) w = fX10_laysBeliefs_63 n1 116 (nI m) (nI (prBl (α 1) (α 0 0))) (nI (j + 1)) u ∧ KMt v0 α m (j + 1) (sTryS α l β m j s) u
    obtain ⟨u, hu, g1, g2, g3⟩ := p_mDig ha (fX10_laysBeliefs_63 n1) hm (nI (prBl (α 1) (α 0 0))) (nI j) (α 0 0) zFU j 0 1 w (Nat.le_refl _) (by unfold zFU; omega) (by omega) h122
    have hFu : FB m (α 0 0) v0 u := FB_tr hF (FB_row (by omega) g3 g2)
    have hD := MDq_with ha hl hb h hm hFu j g1
    obtain ⟨t, ht, hto⟩ := p_mRight (okA_with ha hm j) hl (okBk_with hb m j) hD
    have hFt : FB m (α 0 0) v0 t := FB_tr hFu (FB_M (by omega) hto)
    have h40 : t 116 40 = nI β.length := (hto.2 40 (by decide) (by decide)).trans hD.2.1.1
    have t57 : t 116 57 = nI s.1 := by rw [hto.2 57 (by decide) (by decide), g3 116 (by omega)]; exact h57
    have t58 : t 116 58 = s.2.1 := by rw [hto.2 58 (by decide) (by decide), g3 116 (by omega)]; exact h58
    have t600 : ∀ q, q < α 0 0 → t 600 q = v0 (145 + m) q := fun q hq => by rw [hto.1 600 (by decide) (by decide) (by decide) (by decide) (by decide), g3 600 (by omega)]; exact h600 q hq
    have t601 : ∀ q, q < α 0 0 → t 601 q = agB (s.2.2 q) := fun q hq => by rw [hto.1 601 (by decide) (by decide) (by decide) (by decide) (by decide), g3 601 (by omega)]; exact h601 q hq
    have t145 : ∀ q, q < α 0 0 → t (145 + m) q = nI (dgBl (α 1) (α 0 0) j q) := fun q hq => by rw [hto.1 (145 + m) (by omega) (by omega) (by omega) (by omega) (by omega)]; exact g1 q hq
    have t120 : t 120 0 = nI (α 0 0) := by rw [hto.1 120 (by decide) (by decide) (by decide) (by decide) (by decide), g3 120 (by omega)]; exact h120
    have hle := sRight_le (sWith α m j) l β none
    rw [fX10_laysBeliefs_63]
    dsimp only
    rw [if_neg (nI_ge hj (by omega)), rf_116_12, ln_120, i_0, i_1, zix_nI (by decide) (by decide), nI_cl' (by decide), h120]
    rw [i_1] at hu
    rw [hu, Nat.zero_add, Nat.one_mul]
    unfold fX10_laysBeliefs_153
    rw [ht, zbind_some, h40, i_0, i_1]
    unfold sTryS
    unfold sTryS at hok1
    simp (disch := omega) only [nI_le']
    by_cases c : sHold (sWith α m j) l β none = true
    · rw [if_pos c]
      rw [if_pos c] at hok1
      rw [if_pos (by rw [(sHold_right (okBk_with hb m j) none).mp c]; omega)]
      have hA1 := fun (x : zV) (e : ∀ a, a ≠ 116 → x a = t a) => p_mAlw ha (fX10_laysBeliefs_63 n1) hm (nI (prBl (α 1) (α 0 0))) j (b := dgBl (α 1) (α 0 0) j) (sn := s.2.2) hdl hok.2.1 (w := x) (by rw [e 120 (by decide)]; exact t120) (fun q hq => by rw [e (145 + m) (by omega)]; exact t145 q hq) (fun q hq => by rw [e 601 (by decide)]; exact t601 q hq)
      have fin : ∀ (x : zV), (∀ a, a ≠ 116 → x a = t a) → FB m (α 0 0) v0 x → x 116 57 = nI (s.1 + 1) → x 116 58 = (if s.1 = 0 then nI (dcBl (dgBl (α 1) (α 0 0) j) (α 0 0)) else s.2.1) → ∃ y, fX10_laysBeliefs_200 (fX10_laysBeliefs_63 n1) zFU 116 (nI m) (nI (prBl (α 1) (α 0 0))) (nI j) (nI 0) x = fX10_laysBeliefs_63 n1 116 (nI m) (nI (prBl (α 1) (α 0 0))) (nI (j + 1)) y ∧ KMt v0 α m (j + 1) (s.1 + 1, (if s.1 = 0 then nI (dcBl (dgBl (α 1) (α 0 0) j) (α 0 0)) else s.2.1), fun q => if q < α 0 0 then s.2.2 q ||| 2 ^ dgBl (α 1) (α 0 0) j q else s.2.2 q) y := by
        intro x e hFx x57 x58
        obtain ⟨y, hy, k1, k2⟩ := hA1 x e
        refine ⟨y, hy, hok1, FB_tr hFx (FB_601 (by omega) k2), fun q hq => ?_, fun q hq => ?_, by rw [k2 116 (by decide)]; exact x57, by rw [k2 116 (by decide)]; exact x58⟩
        · rw [k2 600 (by decide), e 600 (by decide)]; exact t600 q hq
        · rw [k1 q hq]
          show _ = agB (if q < α 0 0 then s.2.2 q ||| 2 ^ dgBl (α 1) (α 0 0) j q else s.2.2 q)
          rw [if_pos hq]
      rw [t57]
      have hs1 : s.1 ≤ j := hok.1
      simp (disch := omega) only [nI_eq', zlet_eq]
      by_cases c2 : s.1 = 0
      · rw [if_pos c2]
        refine fin (zup (zup t 116 58 (nI (dcBl (dgBl (α 1) (α 0 0) j) (α 0 0)))) 116 57 ((zup t 116 58 (nI (dcBl (dgBl (α 1) (α 0 0) j) (α 0 0)))) 116 57 + nI 1)) (fun a g => by rw [p_up_a _ _ _ g, p_up_a _ _ _ g]) (FB_tr (FB_tr hFt (FB_k (by omega) (Or.inr rfl) t (nI (dcBl (dgBl (α 1) (α 0 0) j) (α 0 0))))) (FB_k (by omega) (Or.inl rfl) _ _)) ?_ ?_
        · rw [p_up_s, p_up_n _ _ (Or.inr (by decide)), t57, nI_add]
        · rw [p_up_n _ _ (Or.inr (by decide)), p_up_s, if_pos c2]
      · rw [if_neg c2]
        refine fin (zup (zup t 116 58 (t 116 58)) 116 57 ((zup t 116 58 (t 116 58)) 116 57 + nI 1)) (fun a g => by rw [p_up_a _ _ _ g, p_up_a _ _ _ g]) (FB_tr (FB_tr hFt (FB_k (by omega) (Or.inr rfl) t (t 116 58))) (FB_k (by omega) (Or.inl rfl) _ _)) ?_ ?_
        · rw [p_up_s, p_up_n _ _ (Or.inr (by decide)), t57, nI_add]
        · rw [p_up_n _ _ (Or.inr (by decide)), p_up_s, if_neg c2]
          exact t58
    · rw [if_neg c]
      rw [if_neg c] at hok1
      rw [if_neg (fun g => c ((sHold_right (okBk_with hb m j) none).mpr (by omega)))]
      rw [nI_add]
      exact ⟨t, rfl, hok1, hFt, t600, t601, t57, t58⟩
theorem p_mTry {α : sA} {l : sL} {β : sB} (ha : okA α) (hl : okL l) (hb : okBk α β) {m : Nat} (hm : m < α 0 1) {v : zV} (h : MDq v α l β none) : ∃ w, fX10_laysBeliefs 116 (nI m) v = some w ∧ QMt v α (sTry α l β m) w := by
  have hM := ha.1.2.1
  have hQ := ha.1.1
  have hs := okA_side ha
  have ra := rfa_144 m (by omega)
  have la := lna_144 m (by omega)
  unfold fX10_laysBeliefs
  have key : ∀ d n j (u : zV), j + d = α 0 0 → d < n → (∀ q, q < j → u 600 q = v (145 + m) q ∧ u 601 q = -nI 9) → (∀ a, a ≠ 600 → a ≠ 601 → u a = v a) → ∃ w, fX10_laysBeliefs_4 n 116 (nI m) (nI (prBl (α 1) j)) (nI j) u = some w ∧ QMt v α (sTry α l β m) w := by
    intro d
    induction d with
    | zero =>
      intro n j u e hn g1 g2
      obtain ⟨n, rfl⟩ : ∃ k, n = k + 1 := ⟨n - 1, by omega⟩
      obtain rfl : j = α 0 0 := by omega
      have e0 : u 120 0 = nI (α 0 0) := by rw [g2 120 (by decide) (by decide)]; exact h.1.1.1 0 (by decide)
      rw [fX10_laysBeliefs_4]
      dsimp only
      simp (disch := omega) only [↓reduceIte, i_0, i_1, i_2, i_3, i_4, i_5, i_6, i_7, i_8, i_9, i_10, i_11, i_12, i_13, i_14, i_15, i_16, i_17, i_18, i_19, i_20, i_21, i_22, i_23, i_24, i_25, i_26, i_27, i_28, i_29, i_30, i_31, i_32, i_33, i_34, i_35, i_36, i_37, i_38, i_39, i_40, i_41, i_42, i_43, i_44, i_45, i_46, i_47, i_48, i_49, i_50, i_51, i_52, i_53, i_54, i_55, i_56, i_57, i_58, i_59, i_60, i_61, i_62, i_63, i_91, i_93, i_97, i_98, i_99, i_100, i_101, i_102, i_103, i_104, i_122, i_150, i_200, i_255, i_305, i_600, i_729, i_999, i_1365, i_12345, i_32767, i_65536, i_100000, i_1000000, i_1103515245, zlet_eq, zbind_some, zbindv_some, ofN_nI, nI_add, pk_mul, nI_sub', nI_addg, gg_sub, nI_cl', zix_nI, rf_116_9, rf_116_10, rf_116_11, rf_116_12, rf_116_13, rf_116_14, rf_116_15, rf_116_16, rf_116_17, rf_116_18, rf_116_19, rf_116_20, rf_116_21, rf_116_22, rf_116_23, rf_116_24, rf_116_28, rf_116_29, rf_116_30, rf_116_31, rf_116_32, rf_116_33, rf_116_34, rf_116_35, rf_116_36, rf_116_37, rf_116_38, rf_116_39, rf_116_43, rf_116_49, rf_116_51, rf_116_54, rf_116_55, rf_116_56, rf_116_59, ln_127, ln_144, ln_161, ln_174, ln_187, ln_200, ln_213, ln_374, ln_535, ln_548, ln_561, ln_572, ln_577, ln_582, ln_117, ln_118, ln_119, ln_120, ln_121, ln_122, ln_123, ln_124, ln_125, ln_126, ln_565, ln_566, ln_567, ln_568, ln_569, ln_570, ln_571, ln_576, ln_600, ln_601, ln_602, ln_603, e0]
      rw [if_pos (Int32.le_refl _)]
      refine p_mTry63 ha hl hb hm h (s := (0, -1, fun _ => 0)) ⟨okTR_0 α, ?_, fun q hq => ?_, fun q hq => ?_, ?_, ?_⟩
      · refine FB_tr (FB_tr ?_ (FB_k (by omega) (Or.inl rfl) u (nI 0))) (FB_k (by omega) (Or.inr rfl) _ (-nI 1))
        exact ⟨fun a _ _ _ _ _ k6 k7 _ => g2 a k6 k7, fun q _ => by rw [g2 (145 + m) (by omega) (by omega)], fun k _ _ _ _ => by rw [g2 116 (by decide) (by decide)]⟩
      · rw [p_up_a _ _ _ (by decide), p_up_a _ _ _ (by decide)]; exact (g1 q hq).1
      · rw [p_up_a _ _ _ (by decide), p_up_a _ _ _ (by decide)]; exact (g1 q hq).2
      · rw [p_up_n _ _ (Or.inr (by decide)), p_up_s]
      · rw [p_up_s]; rfl
    | succ d ih =>
      intro n j u e hn g1 g2
      obtain ⟨n, rfl⟩ : ∃ k, n = k + 1 := ⟨n - 1, by omega⟩
      have hj : j < α 0 0 := by omega
      have e0 : u 120 0 = nI (α 0 0) := by rw [g2 120 (by decide) (by decide)]; exact h.1.1.1 0 (by decide)
      have e1 : u 122 j = nI (α 1 j) := by rw [g2 122 (by decide) (by decide)]; exact h.1.1.2.1 j hj
      have e2 : u (145 + m) j = v (145 + m) j := by rw [g2 (145 + m) (by omega) (by omega)]
      have e3 : zup (zup u 600 j (v (145 + m) j)) 601 j (-nI 9) 122 j = nI (α 1 j) := by rw [p_up_a _ _ _ (by decide), p_up_a _ _ _ (by decide)]; exact e1
      rw [fX10_laysBeliefs_4]
      dsimp only
      simp (disch := omega) only [↓reduceIte, i_0, i_1, i_2, i_3, i_4, i_5, i_6, i_7, i_8, i_9, i_10, i_11, i_12, i_13, i_14, i_15, i_16, i_17, i_18, i_19, i_20, i_21, i_22, i_23, i_24, i_25, i_26, i_27, i_28, i_29, i_30, i_31, i_32, i_33, i_34, i_35, i_36, i_37, i_38, i_39, i_40, i_41, i_42, i_43, i_44, i_45, i_46, i_47, i_48, i_49, i_50, i_51, i_52, i_53, i_54, i_55, i_56, i_57, i_58, i_59, i_60, i_61, i_62, i_63, i_91, i_93, i_97, i_98, i_99, i_100, i_101, i_102, i_103, i_104, i_122, i_150, i_200, i_255, i_305, i_600, i_729, i_999, i_1365, i_12345, i_32767, i_65536, i_100000, i_1000000, i_1103515245, zlet_eq, zbind_some, zbindv_some, ofN_nI, nI_add, pk_mul, nI_sub', nI_addg, gg_sub, nI_cl', zix_nI, rf_116_9, rf_116_10, rf_116_11, rf_116_12, rf_116_13, rf_116_14, rf_116_15, rf_116_16, rf_116_17, rf_116_18, rf_116_19, rf_116_20, rf_116_21, rf_116_22, rf_116_23, rf_116_24, rf_116_28, rf_116_29, rf_116_30, rf_116_31, rf_116_32, rf_116_33, rf_116_34, rf_116_35, rf_116_36, rf_116_37, rf_116_38, rf_116_39, rf_116_43, rf_116_49, rf_116_51, rf_116_54, rf_116_55, rf_116_56, rf_116_59, ln_127, ln_144, ln_161, ln_174, ln_187, ln_200, ln_213, ln_374, ln_535, ln_548, ln_561, ln_572, ln_577, ln_582, ln_117, ln_118, ln_119, ln_120, ln_121, ln_122, ln_123, ln_124, ln_125, ln_126, ln_565, ln_566, ln_567, ln_568, ln_569, ln_570, ln_571, ln_576, ln_600, ln_601, ln_602, ln_603, e0]
      rw [if_neg (nI_ge hj (by omega))]
      simp (disch := omega) only [ra, la, nI_cl', zix_nI, e2, zlet_eq, e3, pk_mul, e1]
      refine ih n (j + 1) _ (by omega) (by omega) (fun q hq => ?_) (fun a k1 k2 => ?_)
      · by_cases c : q = j
        · rw [c]
          exact ⟨by rw [p_up_a _ _ _ (by decide), p_up_s], p_up_s _ _ _ _⟩
        · rw [p_up_a _ _ _ (by decide), p_up_n _ _ (Or.inr c), p_up_n _ _ (Or.inr c), p_up_a _ _ _ (by decide)]
          exact g1 q (by omega)
      · rw [p_up_a _ _ _ k2, p_up_a _ _ _ k1]; exact g2 a k1 k2
  exact key (α 0 0) zFU 0 v (Nat.zero_add _) (by unfold zFU; omega) (fun q hq => absurd hq (Nat.not_lt_zero q)) (fun _ _ _ => rfl)
theorem agB_only : ∀ b, b < 8 → 0 < b → agB b = sOnly b := by decide
end
