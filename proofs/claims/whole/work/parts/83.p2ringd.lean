section
/-! RING, RINGED: the reference; the ringed men -/
theorem tb_at (b k : Nat) : b / 2 ^ k % 2 = if b.testBit k = true then 1 else 0 := by
  have e := Nat.testBit_eq_decide_div_mod_eq (x := b) (i := k)
  by_cases q : b / 2 ^ k % 2 = 1
  · rw [if_pos (by rw [e]; exact decide_eq_true q), q]
  · rw [if_neg (by rw [e]; exact fun z => q (of_decide_eq_true z))]
    omega
theorem p_mHasR {v : zV} {α : sA} {ρ : sR} (h : eqM v α ρ) (hb : bdC α ρ) {a : Nat} (ha : a < α 0 1) : fX10_hasRing 116 (nI a) v = some (if sHasR α ρ a = true then nI 1 else nI 0, v) := by
  have hM := hb.1.2.1
  unfold fX10_hasRing
  rw [p_mEnemy h hb ha]
  cases q : sEn α ρ a with
  | none =>
    have e1 : sHasR α ρ a = false := by unfold sHasR; rw [q]
    rw [e1, zbind_some, oI_none, if_pos (show -nI 1 = (-1 : Int32) from rfl)]
    rfl
  | some b =>
    have hb' := sEn_lt q
    have e1 : sHasR α ρ a = (sEn α ρ b).isSome := by unfold sHasR; rw [q]
    rw [e1, zbind_some, oI_some, show (-1 : Int32) = -nI 1 from rfl]
    simp (disch := omega) only [ng_eq, if_false]
    rw [p_mEnemy h hb ha, q, zbind_some, oI_some, p_mEnemy h hb hb', zbind_some]
    cases q2 : sEn α ρ b with
    | none =>
      rw [oI_none, if_pos rfl]
      rfl
    | some c =>
      have hc := sEn_lt q2
      rw [oI_some]
      simp (disch := omega) only [ng_eq, if_false]
      rfl
theorem p_mRing29 {v : zV} {α : sA} {ρ : sR} (h : eqM v α ρ) (hb : bdC α ρ) {y : Nat} (hy : y < α 0 1) (hh : sHasR α ρ y = true) : ∀ (d n i : Nat), i + d = 16 → d < n → fX10_ringOf_29 n 116 (nI (zpw (sFoe α ρ) i y)) (nI (bsO (fun k => zpw (sFoe α ρ) k y) i)) (nI i) v = some (nI (bsO (fun k => zpw (sFoe α ρ) k y) 16), v) := by
  intro d
  have hM := hb.1.2.1
  induction d with
  | zero =>
    intro n i e hn
    obtain ⟨n, rfl⟩ : ∃ k, n = k + 1 := ⟨n - 1, by omega⟩
    obtain rfl : i = 16 := by omega
    rw [fX10_ringOf_29]
    exact if_pos (Int32.le_refl _)
  | succ d ih =>
    intro n i e hn
    obtain ⟨n, rfl⟩ : ∃ k, n = k + 1 := ⟨n - 1, by omega⟩
    have y1 : zpw (sFoe α ρ) i y < α 0 1 := zpw_lt sFoe_lt hy _
    rw [← ih n (i + 1) (by omega) (by omega), fX10_ringOf_29]
    dsimp only
    rw [p_mEnemy h hb y1, (sFoe_at hh i).1, zbind_some, oI_some, nI_bit (by omega), nI_or]
    simp (disch := omega) only [i_16, i_1, nI_le', nI_add]
    rw [if_neg (by omega : ¬ 16 ≤ i)]
    rfl
theorem p_mRing7 {v : zV} {α : sA} {ρ : sR} (h : eqM v α ρ) (hb : bdC α ρ) {a : Nat} (ha : a < α 0 1) (hh : sHasR α ρ a = true) : ∀ (d n j : Nat), j + d = 17 → d < n → fX10_ringOf_7 n 116 (nI (zpw (sFoe α ρ) j a)) (nI 0) (nI j) v = fX10_ringOf_29 zFU 116 (nI (zpw (sFoe α ρ) 17 a)) (nI 0) (nI 0) v := by
  intro d
  have hM := hb.1.2.1
  induction d with
  | zero =>
    intro n j e hn
    obtain ⟨n, rfl⟩ : ∃ k, n = k + 1 := ⟨n - 1, by omega⟩
    obtain rfl : j = 17 := by omega
    rw [fX10_ringOf_7]
    exact if_pos (show (16 : Int32) < nI 17 by decide)
  | succ d ih =>
    intro n j e hn
    obtain ⟨n, rfl⟩ : ∃ k, n = k + 1 := ⟨n - 1, by omega⟩
    have y1 : zpw (sFoe α ρ) j a < α 0 1 := zpw_lt sFoe_lt ha _
    rw [← ih n (j + 1) (by omega) (by omega), fX10_ringOf_7]
    dsimp only
    rw [p_mEnemy h hb y1, (sFoe_at hh j).1, zbind_some, oI_some]
    simp (disch := omega) only [i_16, i_1, nI_lt', nI_add]
    rw [if_neg (by omega : ¬ 16 < j)]
theorem p_mRingOf {v : zV} {α : sA} {ρ : sR} (h : eqM v α ρ) (hb : bdC α ρ) {a : Nat} (ha : a < α 0 1) (hh : sHasR α ρ a = true) : fX10_ringOf 116 (nI a) v = some (nI (rgS (sFoe α ρ) a), v) := by
  have h7 := p_mRing7 h hb ha hh 17 zFU 0 rfl (by unfold zFU; omega)
  unfold fX10_ringOf
  rw [i_0]
  rw [show zpw (sFoe α ρ) 0 a = a from rfl] at h7
  rw [h7]
  exact p_mRing29 h hb (zpw_lt sFoe_lt ha 17) (sFoe_at hh 17).2 16 zFU 0 rfl (by unfold zFU; omega)
theorem p_mOnes {b : Nat} (hb : b < 2 ^ 16) (v : zV) : fX10_ones (nI b) v = some (nI (zcnt (fun k => b.testBit k) 16), v) := by
  have hl : ∀ (d n j : Nat), j + d = 16 → d < n → fX10_ones_4 n (nI b) (nI (zcnt (fun k => b.testBit k) j)) (nI j) v = some (nI (zcnt (fun k => b.testBit k) 16), v) := by
    intro d
    induction d with
    | zero =>
      intro n j e hn
      obtain ⟨n, rfl⟩ : ∃ k, n = k + 1 := ⟨n - 1, by omega⟩
      obtain rfl : j = 16 := by omega
      rw [fX10_ones_4]
      exact if_pos (Int32.le_refl _)
    | succ d ih =>
      intro n j e hn
      obtain ⟨n, rfl⟩ : ∃ k, n = k + 1 := ⟨n - 1, by omega⟩
      rw [← ih n (j + 1) (by omega) (by omega), fX10_ones_4]
      dsimp only
      rw [nI_test (by omega) (by omega)]
      simp (disch := omega) only [i_16, i_1, nI_le', nI_add]
      rw [if_neg (by omega : ¬ 16 ≤ j), tb_at, zcnt]
  exact hl 16 zFU 0 rfl (by unfold zFU; omega)
theorem p_mRing79 {b r : Nat} (hb : b < 2 ^ 16) (hr : r < 2) (v : zV) : ∀ (d n k : Nat), k + d = 16 → d < n → (∃ c, k ≤ c ∧ c < 16 ∧ b.testBit c = true) → fX10_ring_79 n (nI r) (nI b) (nI k) v = some (if r = 0 then nI (zcnt (fun k => b.testBit k) 16) else nI (rgLow b d k), v) := by
  intro d
  induction d with
  | zero => intro n k e hn ⟨c, c1, c2, _⟩; omega
  | succ d ih =>
    intro n k e hn ⟨c, c1, c2, c3⟩
    obtain ⟨n, rfl⟩ : ∃ k, n = k + 1 := ⟨n - 1, by omega⟩
    rw [fX10_ring_79]
    dsimp only
    rw [nI_test (by omega) (by omega), tb_at, p_mOnes hb, zbind_some, rgLow]
    simp (disch := omega) only [i_0, i_1, nI_add]
    by_cases q : b.testBit k = true
    · simp only [if_pos q]
      rw [if_neg (show ¬ nI 1 = nI 0 by decide)]
      by_cases r0 : r = 0
      · rw [r0, if_pos rfl, if_pos rfl]
      · rw [if_neg (fun e => r0 ((nI_eq' (by omega) (by omega)).mp e)), if_neg r0]
    · simp only [if_neg q]
      rw [if_pos trivial]
      refine ih n (k + 1) (by omega) (by omega) ⟨c, ?_, c2, c3⟩
      by_cases e2 : c = k
      · rw [e2] at c3; exact absurd c3 q
      · omega
theorem p_mRing {v : zV} {α : sA} {ρ : sR} (h : eqM v α ρ) (hb : bdC α ρ) {a r : Nat} (ha : a < α 0 1) (hr : r < 2) : (zbind (fX10_hasRing 116 (nI a) v) fun r_4 v_3 =>
    if r_4 = (0 : Int32) then
      if nI r = (0 : Int32) then some ((0 : Int32), v_3) else some ((-1 : Int32), v_3)
    else
      zbind (fX10_ringOf 116 (nI a) v_3) fun r_6 v_5 =>
      fX10_ring_79 zFU (nI r) r_6 (0 : Int32) v_5) = some (sRing α ρ a r, v) := by
  have hM := hb.1.2.1
  rw [p_mHasR h hb ha, zbind_some]
  unfold sRing
  by_cases hh : sHasR α ρ a = true
  · rw [if_pos hh, if_pos hh, if_neg (show ¬ nI 1 = 0 by decide), p_mRingOf h hb ha hh, zbind_some, i_0]
    obtain ⟨p, hp16, hp⟩ := rg_at sFoe_lt hM ha
    refine p_mRing79 (rgS_lt sFoe_lt hM ha) hr v 16 zFU 0 rfl (by unfold zFU; omega) ⟨zpw (sFoe α ρ) 16 a, Nat.zero_le _, Nat.lt_of_lt_of_le (zpw_lt sFoe_lt ha 16) hM, (rgS_at hp16 hp _).mpr ⟨0, hp.1, rfl⟩⟩
  · rw [if_neg hh, if_neg hh, if_pos (show nI 0 = 0 from rfl), i_0]
    by_cases r0 : r = 0
    · rw [r0, if_pos rfl, if_pos rfl]
    · rw [if_neg (show ¬ nI r = nI 0 by rw [nI_eq' (by omega) (by omega)]; exact r0), if_neg r0]
      rfl
/-! RINGED -/
def sRgd (α : sA) (ρ : sR) (m : Nat) : Bool := decide (sSt ρ m ≠ 3) && sHasR α ρ m && (rgS (sFoe α ρ) m).testBit m
def sRgdS (α : sA) (ρ : sR) (m : Nat) (b : Int32) : Int32 := if sRgd α ρ m = true then b ||| (1 <<< (nI m &&& 31)) else b
def sRinged (α : sA) (ρ : sR) : Int32 := zit (sRgdS α ρ) (α 0 1) 0 0
theorem p_again0 {v : zV} {α : sA} {ρ : sR} (h : eqC v α ρ) (hb : bdC α ρ) {a : Nat} (ha : a < α 0 1) (hh : sHasR α ρ a = true) : ∀ (d n j : Nat), j + d = 16 → d < n → (∀ i, j < i → i ≤ 16 → zpw (sFoe α ρ) i a ≠ a) → fX3_comesAgain_4 n 96 (nI a) (nI (zpw (sFoe α ρ) j a)) (nI j) v = some (nI 0, v) := by
  intro d
  have hM := hb.1.2.1
  induction d with
  | zero =>
    intro n j e hn _
    obtain ⟨n, rfl⟩ : ∃ k, n = k + 1 := ⟨n - 1, by omega⟩
    obtain rfl : j = 16 := by omega
    rw [fX3_comesAgain_4]
    exact if_pos (Int32.le_refl _)
  | succ d ih =>
    intro n j e hn hno
    obtain ⟨n, rfl⟩ : ∃ k, n = k + 1 := ⟨n - 1, by omega⟩
    have y1 : zpw (sFoe α ρ) j a < α 0 1 := zpw_lt sFoe_lt ha _
    have y2 : zpw (sFoe α ρ) (j + 1) a < α 0 1 := zpw_lt sFoe_lt ha _
    rw [← ih n (j + 1) (by omega) (by omega) (fun i i1 i2 => hno i (by omega) i2), fX3_comesAgain_4]
    dsimp only
    rw [show (-1 : Int32) = -nI 1 from rfl, p_enemy h hb y1, (sFoe_at hh j).1, zbind_some, oI_some]
    simp (disch := omega) only [i_16, i_1, nI_le', nI_eq', ng_eq, nI_add, if_false]
    rw [if_neg (by omega : ¬ 16 ≤ j), if_neg (hno (j + 1) (by omega) (by omega))]
theorem p_again1 {v : zV} {α : sA} {ρ : sR} (h : eqC v α ρ) (hb : bdC α ρ) {a p : Nat} (ha : a < α 0 1) (hh : sHasR α ρ a = true) (hp16 : p ≤ 16) (hp : isRG (sFoe α ρ) a p) : ∀ (d n j : Nat), j + d + 1 = p → d < n → fX3_comesAgain_4 n 96 (nI a) (nI (zpw (sFoe α ρ) j a)) (nI j) v = some (nI 1, v) := by
  intro d
  have hM := hb.1.2.1
  induction d with
  | zero =>
    intro n j e hn
    obtain ⟨n, rfl⟩ : ∃ k, n = k + 1 := ⟨n - 1, by omega⟩
    have y1 : zpw (sFoe α ρ) j a < α 0 1 := zpw_lt sFoe_lt ha _
    rw [fX3_comesAgain_4]
    dsimp only
    rw [show (-1 : Int32) = -nI 1 from rfl, p_enemy h hb y1, (sFoe_at hh j).1, zbind_some, oI_some, show j + 1 = p by omega, hp.2.1]
    simp (disch := omega) only [i_16, i_1, nI_le', ng_eq, if_false]
    rw [if_neg (by omega : ¬ 16 ≤ j), if_pos trivial]
  | succ d ih =>
    intro n j e hn
    obtain ⟨n, rfl⟩ : ∃ k, n = k + 1 := ⟨n - 1, by omega⟩
    have y1 : zpw (sFoe α ρ) j a < α 0 1 := zpw_lt sFoe_lt ha _
    have y2 : zpw (sFoe α ρ) (j + 1) a < α 0 1 := zpw_lt sFoe_lt ha _
    rw [← ih n (j + 1) (by omega) (by omega), fX3_comesAgain_4]
    dsimp only
    rw [show (-1 : Int32) = -nI 1 from rfl, p_enemy h hb y1, (sFoe_at hh j).1, zbind_some, oI_some]
    simp (disch := omega) only [i_16, i_1, nI_le', nI_eq', ng_eq, nI_add, if_false]
    rw [if_neg (by omega : ¬ 16 ≤ j), if_neg (hp.2.2 (j + 1) (by omega) (by omega))]
theorem p_again {v : zV} {α : sA} {ρ : sR} (h : eqC v α ρ) (hb : bdC α ρ) {a : Nat} (ha : a < α 0 1) : fX3_comesAgain 96 (nI a) v = some (if sRgd α ρ a = true then nI 1 else nI 0, v) := by
  have hM := hb.1.2.1
  unfold fX3_comesAgain
  rw [i_0]
  by_cases hh : sHasR α ρ a = true
  · by_cases hs : sSt ρ a = 3
    · rw [if_neg (show ¬ sRgd α ρ a = true by unfold sRgd; rw [hs]; intro q; cases q)]
      refine p_again0 h hb ha hh 16 zFU 0 rfl (by unfold zFU; omega) (fun i i1 _ e => ?_)
      have := (sEn_st (sFoe_at hh (i - 1)).1).1
      rw [show i - 1 + 1 = i by omega, e] at this
      exact this hs
    · obtain ⟨p, hp16, hp⟩ := rg_at sFoe_lt hM ha
      have er : sRgd α ρ a = (rgS (sFoe α ρ) a).testBit a := by
        unfold sRgd
        rw [decide_eq_true hs, hh]
        rfl
      rw [er]
      by_cases ht : (rgS (sFoe α ρ) a).testBit a = true
      · rw [if_pos ht]
        obtain ⟨i, i1, i2⟩ := (rgS_at hp16 hp a).mp ht
        obtain ⟨p2, q1, q2, q3, q4⟩ := rg_min (P := fun n => zpw (sFoe α ρ) n a = a) (i + 16) (by omega) (by rw [zpw_add]; exact i2)
        have hp2 : isRG (sFoe α ρ) a p2 := ⟨q1, q3, q4⟩
        have := rg_le sFoe_lt ha hp2
        exact p_again1 h hb ha hh (by omega) hp2 (p2 - 1) zFU 0 (by omega) (by unfold zFU; omega)
      · rw [if_neg ht]
        refine p_again0 h hb ha hh 16 zFU 0 rfl (by unfold zFU; omega) (fun i i1 _ e => ?_)
        apply ht
        rw [rgS_at hp16 hp]
        obtain ⟨r, r1, r2⟩ := rg_mod hp (i * 16 - 16) (i * 16 - 16) (Nat.le_refl _)
        refine ⟨r, r1, ?_⟩
        rw [← r2, ← zpw_add, show i * 16 - 16 + 16 = i * 16 by omega, rg_mul e]
  · rw [if_neg (show ¬ sRgd α ρ a = true by unfold sRgd; rw [Bool.eq_false_iff.mpr hh]; simp)]
    have e0 : ∀ n, fX3_comesAgain_4 (n + 3) 96 (nI a) (nI a) (nI 0) v = some (nI 0, v) := by
      intro n
      rw [fX3_comesAgain_4]
      dsimp only
      rw [show (-1 : Int32) = -nI 1 from rfl, p_enemy h hb ha, zbind_some]
      cases q : sEn α ρ a with
      | none =>
        rw [oI_none]
        simp (disch := omega) only [i_16, i_1, i_0, nI_le', nI_eq', ng_eq, ng_eq2, nI_add, if_false]
        rw [if_neg (by omega : ¬ 16 ≤ 0), fX3_comesAgain_4]
        dsimp only
        rw [if_pos (show -nI 1 = (-1 : Int32) from rfl), i_0]
        exact ite_self _
      | some b =>
        have hb' := sEn_lt q
        have hba := (sEn_st q).2
        rw [oI_some]
        simp (disch := omega) only [i_16, i_1, i_0, nI_le', nI_eq', ng_eq, ng_eq2, nI_add, if_false]
        rw [if_neg (by omega : ¬ 16 ≤ 0), if_neg hba, fX3_comesAgain_4]
        dsimp only
        rw [show (-1 : Int32) = -nI 1 from rfl, p_enemy h hb hb', zbind_some]
        cases q2 : sEn α ρ b with
        | some c =>
          refine absurd ?_ hh
          unfold sHasR
          rw [q]
          show (sEn α ρ b).isSome = true
          rw [q2]
          rfl
        | none =>
          rw [oI_none]
          simp (disch := omega) only [i_16, i_1, i_0, nI_le', nI_eq', ng_eq, ng_eq2, nI_add, if_false]
          rw [if_neg (by omega : ¬ 16 ≤ 0 + 1), fX3_comesAgain_4]
          dsimp only
          rw [if_pos (show -nI 1 = (-1 : Int32) from rfl), i_0]
          exact ite_self _
    rw [← e0 (zFU - 3)]
    rfl
theorem p_ringed {v : zV} {α : sA} {ρ : sR} (h : eqC v α ρ) (hb : bdC α ρ) : fX3_ringedMen 96 v = some (sRinged α ρ, v) := by
  have hM := hb.1.2.1
  unfold fX3_ringedMen
  refine lpE (fun n j (b : Int32) => fX3_ringedMen_4 n 96 b (nI j) v) (sRgdS α ρ) (α 0 1) (fun b => some (b, v)) (fun n b => ?_) (fun n j b hj => ?_) (α 0 1) zFU 0 0 (Nat.zero_add _) (by unfold zFU; omega)
  · show fX3_ringedMen_4 (n + 1) 96 b (nI (α 0 1)) v = _
    rw [fX3_ringedMen_4]
    dsimp only
    rw [rf_96_0, h.1, if_pos (Int32.le_refl _)]
  · show fX3_ringedMen_4 (n + 1) 96 b (nI j) v = fX3_ringedMen_4 n 96 (sRgdS α ρ j b) (nI (j + 1)) v
    rw [fX3_ringedMen_4]
    dsimp only
    rw [rf_96_0, h.1, if_neg (nI_ge hj (by omega)), p_again h hb hj, zbind_some]
    unfold sRgdS
    simp (disch := omega) only [i_1, nI_add]
    by_cases q : sRgd α ρ j = true
    · rw [if_pos q, if_pos q, if_neg (show ¬ nI 1 = 0 by decide)]
    · rw [if_neg q, if_neg q, if_pos (show nI 0 = 0 from rfl)]
theorem p_mRinged {v : zV} {α : sA} {ρ : sR} (h : eqM v α ρ) (hb : bdC α ρ) : fX10_ringed_9 zFU 116 0 0 v = some (sRinged α ρ, v) := by
  have hM := hb.1.2.1
  have hE := h
  obtain ⟨hm, hl, hch, hst, hdf, hbl⟩ := h
  refine lpE (fun n j (b : Int32) => fX10_ringed_9 n 116 b (nI j) v) (sRgdS α ρ) (α 0 1) (fun b => some (b, v)) (fun n b => ?_) (fun n j b hj => ?_) (α 0 1) zFU 0 0 (Nat.zero_add _) (by unfold zFU; omega)
  · show fX10_ringed_9 (n + 1) 116 b (nI (α 0 1)) v = _
    rw [fX10_ringed_9]
    dsimp only
    simp (disch := omega) only [↓reduceIte, i_0, i_1, i_2, i_3, i_4, i_5, i_6, i_7, i_8, i_9, i_10, i_11, i_12, i_13, i_14, i_15, i_16, i_17, i_18, i_19, i_20, i_21, i_22, i_23, i_24, i_25, i_26, i_27, i_28, i_29, i_30, i_31, i_32, i_33, i_34, i_35, i_36, i_37, i_38, i_39, i_40, i_41, i_42, i_43, i_44, i_45, i_46, i_47, i_48, i_49, i_50, i_51, i_52, i_53, i_54, i_55, i_56, i_57, i_58, i_59, i_60, i_61, i_62, i_63, i_91, i_93, i_97, i_98, i_99, i_100, i_101, i_102, i_103, i_104, i_122, i_150, i_200, i_255, i_305, i_600, i_729, i_999, i_1365, i_12345, i_32767, i_65536, i_100000, i_1000000, i_1103515245, zlet_eq, zbind_some, zbindv_some, ofN_nI, nI_add, pk_mul, nI_sub', nI_addg, gg_sub, nI_cl', zix_nI, rf_116_9, rf_116_10, rf_116_11, rf_116_12, rf_116_13, rf_116_14, rf_116_15, rf_116_16, rf_116_17, rf_116_18, rf_116_19, rf_116_20, rf_116_21, rf_116_22, rf_116_23, rf_116_24, rf_116_28, rf_116_29, rf_116_30, rf_116_31, rf_116_32, rf_116_33, rf_116_34, rf_116_35, rf_116_36, rf_116_37, rf_116_38, rf_116_39, rf_116_43, rf_116_49, rf_116_51, rf_116_54, rf_116_55, rf_116_56, rf_116_59, ln_127, ln_144, ln_161, ln_174, ln_187, ln_200, ln_213, ln_374, ln_535, ln_548, ln_561, ln_572, ln_577, ln_582, ln_117, ln_118, ln_119, ln_120, ln_121, ln_122, ln_123, ln_124, ln_125, ln_126, ln_565, ln_566, ln_567, ln_568, ln_569, ln_570, ln_571, ln_576, ln_600, ln_601, ln_602, ln_603, hm]
    rw [if_pos (Int32.le_refl _)]
  · show fX10_ringed_9 (n + 1) 116 b (nI j) v = fX10_ringed_9 n 116 (sRgdS α ρ j b) (nI (j + 1)) v
    have hs := hst j hj
    have b4 := hb.2.2.1 j
    rw [fX10_ringed_9]
    dsimp only
    simp (disch := omega) only [↓reduceIte, i_0, i_1, i_2, i_3, i_4, i_5, i_6, i_7, i_8, i_9, i_10, i_11, i_12, i_13, i_14, i_15, i_16, i_17, i_18, i_19, i_20, i_21, i_22, i_23, i_24, i_25, i_26, i_27, i_28, i_29, i_30, i_31, i_32, i_33, i_34, i_35, i_36, i_37, i_38, i_39, i_40, i_41, i_42, i_43, i_44, i_45, i_46, i_47, i_48, i_49, i_50, i_51, i_52, i_53, i_54, i_55, i_56, i_57, i_58, i_59, i_60, i_61, i_62, i_63, i_91, i_93, i_97, i_98, i_99, i_100, i_101, i_102, i_103, i_104, i_122, i_150, i_200, i_255, i_305, i_600, i_729, i_999, i_1365, i_12345, i_32767, i_65536, i_100000, i_1000000, i_1103515245, zlet_eq, zbind_some, zbindv_some, ofN_nI, nI_add, pk_mul, nI_sub', nI_addg, gg_sub, nI_cl', zix_nI, rf_116_9, rf_116_10, rf_116_11, rf_116_12, rf_116_13, rf_116_14, rf_116_15, rf_116_16, rf_116_17, rf_116_18, rf_116_19, rf_116_20, rf_116_21, rf_116_22, rf_116_23, rf_116_24, rf_116_28, rf_116_29, rf_116_30, rf_116_31, rf_116_32, rf_116_33, rf_116_34, rf_116_35, rf_116_36, rf_116_37, rf_116_38, rf_116_39, rf_116_43, rf_116_49, rf_116_51, rf_116_54, rf_116_55, rf_116_56, rf_116_59, ln_127, ln_144, ln_161, ln_174, ln_187, ln_200, ln_213, ln_374, ln_535, ln_548, ln_561, ln_572, ln_577, ln_582, ln_117, ln_118, ln_119, ln_120, ln_121, ln_122, ln_123, ln_124, ln_125, ln_126, ln_565, ln_566, ln_567, ln_568, ln_569, ln_570, ln_571, ln_576, ln_600, ln_601, ln_602, ln_603, hm, Nat.zero_add, hs, nI_eq', or_0]
    rw [if_neg (nI_ge hj (by omega)), ← i_31, ← i_1]
    unfold sRgdS sRgd
    by_cases c1 : sSt ρ j = 3
    · rw [if_pos c1, if_neg (show ¬ (decide (sSt ρ j ≠ 3) && sHasR α ρ j && (rgS (sFoe α ρ) j).testBit j) = true by rw [c1]; intro q; cases q)]
    · rw [if_neg c1, p_mHasR hE hb hj, zbind_some, decide_eq_true c1]
      by_cases hh : sHasR α ρ j = true
      · rw [hh, if_pos rfl, if_neg (show ¬ nI 1 = nI 0 by decide), p_mRingOf hE hb hj hh, zbind_some, nI_test (Nat.lt_trans (rgS_lt sFoe_lt hM hj) (by decide)) (by omega), tb_at]
        by_cases ht : (rgS (sFoe α ρ) j).testBit j = true
        · rw [ht, if_pos rfl, if_pos (show nI 1 = (1 : Int32) from rfl), if_pos (show (true && true && true) = true from rfl)]
        · rw [Bool.eq_false_iff.mpr ht, if_neg (show ¬ (false = true) by decide), if_neg (show ¬ nI 0 = (1 : Int32) by decide), if_neg (show ¬ (true && true && false) = true by decide)]
      · rw [Bool.eq_false_iff.mpr hh, if_neg (show ¬ (false = true) by decide), if_pos rfl, if_neg (by simp)]
end
