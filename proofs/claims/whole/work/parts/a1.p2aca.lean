/-! ACADEMY, the call -/
section
theorem rr_3_7 : zrf 3 7 = 4 := by decide +kernel
theorem rr_3_8 : zrf 3 8 = 5 := by decide +kernel
theorem rr_3_9 : zrf 3 9 = 6 := by decide +kernel
theorem rr_3_10 : zrf 3 10 = 7 := by decide +kernel
theorem rr_3_11 : zrf 3 11 = 8 := by decide +kernel
theorem rr_3_12 : zrf 3 12 = 9 := by decide +kernel
theorem rr_3_13 : zrf 3 13 = 10 := by decide +kernel
theorem rr_3_14 : zrf 3 14 = 11 := by decide +kernel
theorem rr_3_15 : zrf 3 15 = 12 := by decide +kernel
theorem lB : zlen 4 = 6 ∧ zlen 5 = 16 ∧ zlen 6 = 16 ∧ zlen 7 = 12 ∧ zlen 8 = 12 ∧ zlen 9 = 12 ∧ zlen 10 = 12 ∧ zlen 11 = 12 ∧ zlen 12 = 12 := by decide +kernel
theorem p_acadCopy {α : sA} (ha : okA α) {v : zV} (h : pCA 13 v α) : ∃ w, fX0_copy 3 13 v = some w ∧ pCA 3 w α ∧ ∀ a, (a < 3 ∨ 12 < a) → w a = v a := by
  obtain ⟨⟨b0, b1, b2, b3, b4, b5⟩, h1, h2, h3, h4, h5, h6⟩ := h
  obtain ⟨⟨a0, a1, a2, a2', a3, a4, a5⟩, -⟩ := ha
  have c6 : ∀ {γ : Type} {i j : Nat} (k : Option γ), zlen i = 6 → zlen j = 6 → zcpk i j (0 : Int32) (0 : Int32) (6 : Int32) k = k := fun k h1 h2 => zcpk_0 (n := 6) (by omega) (by omega) (by decide) k
  have c12 : ∀ {γ : Type} {i j : Nat} (k : Option γ), zlen i = 12 → zlen j = 12 → zcpk i j (0 : Int32) (0 : Int32) (12 : Int32) k = k := fun k h1 h2 => zcpk_0 (n := 12) (by omega) (by omega) (by decide) k
  have c16 : ∀ {γ : Type} {i j : Nat} (k : Option γ), zlen i = 16 → zlen j = 16 → zcpk i j (0 : Int32) (0 : Int32) (16 : Int32) k = k := fun k h1 h2 => zcpk_0 (n := 16) (by omega) (by omega) (by decide) k
  have hw : fX0_copy 3 13 v = some (zcp (zcp (zcp (zcp (zcp (zcp (zcp (zcp (zcp (zup (zup (zup (zup (zup (zup v 3 0 (v 13 0)) 3 1 (v 13 1)) 3 2 (v 13 2)) 3 3 (v 13 3)) 3 4 (v 13 4)) 3 5 (v 13 5)) 14 4 0 0 6) 15 5 0 0 16) 16 6 0 0 16) 17 7 0 0 12) 18 8 0 0 12) 19 9 0 0 12) 20 10 0 0 12) 21 11 0 0 12) 22 12 0 0 12) := by
    unfold fX0_copy
    rw [rA7, rr_3_7, rA8, rr_3_8, rA9, rr_3_9, rA10, rr_3_10, rA11, rr_3_11, rA12, rr_3_12, rA13, rr_3_13, rA14, rr_3_14, rA15, rr_3_15]
    rw [zlet_eq, zlet_eq, zlet_eq, zlet_eq, zlet_eq, zlet_eq, c6 _ lA.1 lB.1, zlet_eq, c16 _ lA.2.1 lB.2.1, zlet_eq, c16 _ lA.2.2.1 lB.2.2.1, zlet_eq, c12 _ lA.2.2.2.1 lB.2.2.2.1, zlet_eq, c12 _ lA.2.2.2.2.1 lB.2.2.2.2.1, zlet_eq, c12 _ lA.2.2.2.2.2.1 lB.2.2.2.2.2.1, zlet_eq, c12 _ lA.2.2.2.2.2.2.1 lB.2.2.2.2.2.2.1, zlet_eq, c12 _ lA.2.2.2.2.2.2.2.1 lB.2.2.2.2.2.2.2.1, zlet_eq, c12 _ lA.2.2.2.2.2.2.2.2 lB.2.2.2.2.2.2.2.2, zlet_eq]
    rfl
  have e3 : ∀ k, (zcp (zcp (zcp (zcp (zcp (zcp (zcp (zcp (zcp (zup (zup (zup (zup (zup (zup v 3 0 (v 13 0)) 3 1 (v 13 1)) 3 2 (v 13 2)) 3 3 (v 13 3)) 3 4 (v 13 4)) 3 5 (v 13 5)) 14 4 0 0 6) 15 5 0 0 16) 16 6 0 0 16) 17 7 0 0 12) 18 8 0 0 12) 19 9 0 0 12) 20 10 0 0 12) 21 11 0 0 12) 22 12 0 0 12) 3 k = (zup (zup (zup (zup (zup (zup v 3 0 (v 13 0)) 3 1 (v 13 1)) 3 2 (v 13 2)) 3 3 (v 13 3)) 3 4 (v 13 4)) 3 5 (v 13 5)) 3 k := fun k => by rw [zc_n (by decide), zc_n (by decide), zc_n (by decide), zc_n (by decide), zc_n (by decide), zc_n (by decide), zc_n (by decide), zc_n (by decide), zc_n (by decide)]
  have e4 : ∀ k, k < 6 → (zcp (zcp (zcp (zcp (zcp (zcp (zcp (zcp (zcp (zup (zup (zup (zup (zup (zup v 3 0 (v 13 0)) 3 1 (v 13 1)) 3 2 (v 13 2)) 3 3 (v 13 3)) 3 4 (v 13 4)) 3 5 (v 13 5)) 14 4 0 0 6) 15 5 0 0 16) 16 6 0 0 16) 17 7 0 0 12) 18 8 0 0 12) 19 9 0 0 12) 20 10 0 0 12) 21 11 0 0 12) 22 12 0 0 12) 4 k = v 14 k := fun k hk => by rw [zc_n (by decide), zc_n (by decide), zc_n (by decide), zc_n (by decide), zc_n (by decide), zc_n (by decide), zc_n (by decide), zc_n (by decide), zc_s hk, p_up_a _ _ _ (by decide), p_up_a _ _ _ (by decide), p_up_a _ _ _ (by decide), p_up_a _ _ _ (by decide), p_up_a _ _ _ (by decide), p_up_a _ _ _ (by decide)]
  have e5 : ∀ k, k < 16 → (zcp (zcp (zcp (zcp (zcp (zcp (zcp (zcp (zcp (zup (zup (zup (zup (zup (zup v 3 0 (v 13 0)) 3 1 (v 13 1)) 3 2 (v 13 2)) 3 3 (v 13 3)) 3 4 (v 13 4)) 3 5 (v 13 5)) 14 4 0 0 6) 15 5 0 0 16) 16 6 0 0 16) 17 7 0 0 12) 18 8 0 0 12) 19 9 0 0 12) 20 10 0 0 12) 21 11 0 0 12) 22 12 0 0 12) 5 k = v 15 k := fun k hk => by rw [zc_n (by decide), zc_n (by decide), zc_n (by decide), zc_n (by decide), zc_n (by decide), zc_n (by decide), zc_n (by decide), zc_s hk, zc_n (by decide), p_up_a _ _ _ (by decide), p_up_a _ _ _ (by decide), p_up_a _ _ _ (by decide), p_up_a _ _ _ (by decide), p_up_a _ _ _ (by decide), p_up_a _ _ _ (by decide)]
  have e6 : ∀ k, k < 16 → (zcp (zcp (zcp (zcp (zcp (zcp (zcp (zcp (zcp (zup (zup (zup (zup (zup (zup v 3 0 (v 13 0)) 3 1 (v 13 1)) 3 2 (v 13 2)) 3 3 (v 13 3)) 3 4 (v 13 4)) 3 5 (v 13 5)) 14 4 0 0 6) 15 5 0 0 16) 16 6 0 0 16) 17 7 0 0 12) 18 8 0 0 12) 19 9 0 0 12) 20 10 0 0 12) 21 11 0 0 12) 22 12 0 0 12) 6 k = v 16 k := fun k hk => by rw [zc_n (by decide), zc_n (by decide), zc_n (by decide), zc_n (by decide), zc_n (by decide), zc_n (by decide), zc_s hk, zc_n (by decide), zc_n (by decide), p_up_a _ _ _ (by decide), p_up_a _ _ _ (by decide), p_up_a _ _ _ (by decide), p_up_a _ _ _ (by decide), p_up_a _ _ _ (by decide), p_up_a _ _ _ (by decide)]
  have e7 : ∀ k, k < 12 → (zcp (zcp (zcp (zcp (zcp (zcp (zcp (zcp (zcp (zup (zup (zup (zup (zup (zup v 3 0 (v 13 0)) 3 1 (v 13 1)) 3 2 (v 13 2)) 3 3 (v 13 3)) 3 4 (v 13 4)) 3 5 (v 13 5)) 14 4 0 0 6) 15 5 0 0 16) 16 6 0 0 16) 17 7 0 0 12) 18 8 0 0 12) 19 9 0 0 12) 20 10 0 0 12) 21 11 0 0 12) 22 12 0 0 12) 7 k = v 17 k := fun k hk => by rw [zc_n (by decide), zc_n (by decide), zc_n (by decide), zc_n (by decide), zc_n (by decide), zc_s hk, zc_n (by decide), zc_n (by decide), zc_n (by decide), p_up_a _ _ _ (by decide), p_up_a _ _ _ (by decide), p_up_a _ _ _ (by decide), p_up_a _ _ _ (by decide), p_up_a _ _ _ (by decide), p_up_a _ _ _ (by decide)]
  have e8 : ∀ k, k < 12 → (zcp (zcp (zcp (zcp (zcp (zcp (zcp (zcp (zcp (zup (zup (zup (zup (zup (zup v 3 0 (v 13 0)) 3 1 (v 13 1)) 3 2 (v 13 2)) 3 3 (v 13 3)) 3 4 (v 13 4)) 3 5 (v 13 5)) 14 4 0 0 6) 15 5 0 0 16) 16 6 0 0 16) 17 7 0 0 12) 18 8 0 0 12) 19 9 0 0 12) 20 10 0 0 12) 21 11 0 0 12) 22 12 0 0 12) 8 k = v 18 k := fun k hk => by rw [zc_n (by decide), zc_n (by decide), zc_n (by decide), zc_n (by decide), zc_s hk, zc_n (by decide), zc_n (by decide), zc_n (by decide), zc_n (by decide), p_up_a _ _ _ (by decide), p_up_a _ _ _ (by decide), p_up_a _ _ _ (by decide), p_up_a _ _ _ (by decide), p_up_a _ _ _ (by decide), p_up_a _ _ _ (by decide)]
  have e9 : ∀ k, k < 12 → (zcp (zcp (zcp (zcp (zcp (zcp (zcp (zcp (zcp (zup (zup (zup (zup (zup (zup v 3 0 (v 13 0)) 3 1 (v 13 1)) 3 2 (v 13 2)) 3 3 (v 13 3)) 3 4 (v 13 4)) 3 5 (v 13 5)) 14 4 0 0 6) 15 5 0 0 16) 16 6 0 0 16) 17 7 0 0 12) 18 8 0 0 12) 19 9 0 0 12) 20 10 0 0 12) 21 11 0 0 12) 22 12 0 0 12) 9 k = v 19 k := fun k hk => by rw [zc_n (by decide), zc_n (by decide), zc_n (by decide), zc_s hk, zc_n (by decide), zc_n (by decide), zc_n (by decide), zc_n (by decide), zc_n (by decide), p_up_a _ _ _ (by decide), p_up_a _ _ _ (by decide), p_up_a _ _ _ (by decide), p_up_a _ _ _ (by decide), p_up_a _ _ _ (by decide), p_up_a _ _ _ (by decide)]
  have e10 : ∀ k, k < 12 → (zcp (zcp (zcp (zcp (zcp (zcp (zcp (zcp (zcp (zup (zup (zup (zup (zup (zup v 3 0 (v 13 0)) 3 1 (v 13 1)) 3 2 (v 13 2)) 3 3 (v 13 3)) 3 4 (v 13 4)) 3 5 (v 13 5)) 14 4 0 0 6) 15 5 0 0 16) 16 6 0 0 16) 17 7 0 0 12) 18 8 0 0 12) 19 9 0 0 12) 20 10 0 0 12) 21 11 0 0 12) 22 12 0 0 12) 10 k = v 20 k := fun k hk => by rw [zc_n (by decide), zc_n (by decide), zc_s hk, zc_n (by decide), zc_n (by decide), zc_n (by decide), zc_n (by decide), zc_n (by decide), zc_n (by decide), p_up_a _ _ _ (by decide), p_up_a _ _ _ (by decide), p_up_a _ _ _ (by decide), p_up_a _ _ _ (by decide), p_up_a _ _ _ (by decide), p_up_a _ _ _ (by decide)]
  have e11 : ∀ k, k < 12 → (zcp (zcp (zcp (zcp (zcp (zcp (zcp (zcp (zcp (zup (zup (zup (zup (zup (zup v 3 0 (v 13 0)) 3 1 (v 13 1)) 3 2 (v 13 2)) 3 3 (v 13 3)) 3 4 (v 13 4)) 3 5 (v 13 5)) 14 4 0 0 6) 15 5 0 0 16) 16 6 0 0 16) 17 7 0 0 12) 18 8 0 0 12) 19 9 0 0 12) 20 10 0 0 12) 21 11 0 0 12) 22 12 0 0 12) 11 k = v 21 k := fun k hk => by rw [zc_n (by decide), zc_s hk, zc_n (by decide), zc_n (by decide), zc_n (by decide), zc_n (by decide), zc_n (by decide), zc_n (by decide), zc_n (by decide), p_up_a _ _ _ (by decide), p_up_a _ _ _ (by decide), p_up_a _ _ _ (by decide), p_up_a _ _ _ (by decide), p_up_a _ _ _ (by decide), p_up_a _ _ _ (by decide)]
  have e12 : ∀ k, k < 12 → (zcp (zcp (zcp (zcp (zcp (zcp (zcp (zcp (zcp (zup (zup (zup (zup (zup (zup v 3 0 (v 13 0)) 3 1 (v 13 1)) 3 2 (v 13 2)) 3 3 (v 13 3)) 3 4 (v 13 4)) 3 5 (v 13 5)) 14 4 0 0 6) 15 5 0 0 16) 16 6 0 0 16) 17 7 0 0 12) 18 8 0 0 12) 19 9 0 0 12) 20 10 0 0 12) 21 11 0 0 12) 22 12 0 0 12) 12 k = v 22 k := fun k hk => by rw [zc_s hk, zc_n (by decide), zc_n (by decide), zc_n (by decide), zc_n (by decide), zc_n (by decide), zc_n (by decide), zc_n (by decide), zc_n (by decide), p_up_a _ _ _ (by decide), p_up_a _ _ _ (by decide), p_up_a _ _ _ (by decide), p_up_a _ _ _ (by decide), p_up_a _ _ _ (by decide), p_up_a _ _ _ (by decide)]
  have ea : ∀ a, (a < 3 ∨ 12 < a) → (zcp (zcp (zcp (zcp (zcp (zcp (zcp (zcp (zcp (zup (zup (zup (zup (zup (zup v 3 0 (v 13 0)) 3 1 (v 13 1)) 3 2 (v 13 2)) 3 3 (v 13 3)) 3 4 (v 13 4)) 3 5 (v 13 5)) 14 4 0 0 6) 15 5 0 0 16) 16 6 0 0 16) 17 7 0 0 12) 18 8 0 0 12) 19 9 0 0 12) 20 10 0 0 12) 21 11 0 0 12) 22 12 0 0 12) a = v a := fun a g => by rw [zc_n (by omega), zc_n (by omega), zc_n (by omega), zc_n (by omega), zc_n (by omega), zc_n (by omega), zc_n (by omega), zc_n (by omega), zc_n (by omega), p_up_a _ _ _ (by omega), p_up_a _ _ _ (by omega), p_up_a _ _ _ (by omega), p_up_a _ _ _ (by omega), p_up_a _ _ _ (by omega), p_up_a _ _ _ (by omega)]
  have f3 : ∀ k, (zup (zup (zup (zup (zup (zup v 3 0 (v 13 0)) 3 1 (v 13 1)) 3 2 (v 13 2)) 3 3 (v 13 3)) 3 4 (v 13 4)) 3 5 (v 13 5)) 3 k = if k = 5 then v 13 5 else if k = 4 then v 13 4 else if k = 3 then v 13 3 else if k = 2 then v 13 2 else if k = 1 then v 13 1 else if k = 0 then v 13 0 else v 3 k := fun k => by rw [up_at, up_at, up_at, up_at, up_at, up_at]
  generalize zcp (zcp (zcp (zcp (zcp (zcp (zcp (zcp (zcp (zup (zup (zup (zup (zup (zup v 3 0 (v 13 0)) 3 1 (v 13 1)) 3 2 (v 13 2)) 3 3 (v 13 3)) 3 4 (v 13 4)) 3 5 (v 13 5)) 14 4 0 0 6) 15 5 0 0 16) 16 6 0 0 16) 17 7 0 0 12) 18 8 0 0 12) 19 9 0 0 12) 20 10 0 0 12) 21 11 0 0 12) 22 12 0 0 12 = w at hw e3 e4 e5 e6 e7 e8 e9 e10 e11 e12 ea
  refine ⟨w, hw, ⟨⟨?_, ?_, ?_, ?_, ?_, ?_⟩, fun q hq => (e4 q (by omega)).trans (h1 q hq), fun q hq => (e5 q (by omega)).trans (h2 q hq), fun q hq => (e6 q (by omega)).trans (h3 q hq), fun q hq => (e7 q (by omega)).trans (h4 q hq), fun k hk => ⟨(e8 k (by omega)).trans (h5 k hk).1, (e9 k (by omega)).trans (h5 k hk).2⟩, fun k hk => ⟨(e10 k (by omega)).trans (h6 k hk).1, (e11 k (by omega)).trans (h6 k hk).2.1, (e12 k (by omega)).trans (h6 k hk).2.2⟩⟩, ea⟩
  · rw [e3, f3]; exact b0
  · rw [e3, f3]; exact b1
  · rw [e3, f3]; exact b2
  · rw [e3, f3]; exact b3
  · rw [e3, f3]; exact b4
  · rw [e3, f3]; exact b5
theorem p_add23 {x : Int32} {v : zV} {k : Nat} (h : v 23 3 = nI k) (hk : k < 150) : fX5_add 23 x v = some (zup (zup v 24 k x) 23 3 (nI (k + 1))) := by
  unfold fX5_add
  rw [rr_23_0, l24, h, if_neg (nI_pos (by omega)), show Int32.ofNat 150 = nI 150 from rfl, if_neg (leN (by omega) (by omega) (by omega)), zix_nI hk (by omega), nI_cl' (by omega), zlet_eq, zlet_eq, p_up_a _ _ _ (by decide), h, show (nI k + 1 : Int32) = nI (k + 1) from nI_add _ 1]
theorem p_beUsual (v : zV) : ∃ w, fX5_beUsual 23 v = some w ∧ pCL w sUsual ∧ ∀ a, a ≠ 23 → a ≠ 24 → w a = v a := by
  have e24 : ∀ k, (zup (zup (zup (zup (zup (zup (zup (zup (zup (zup (zup v 23 3 0) 24 0 (-7)) 23 3 (nI (0 + 1))) 24 1 10) 23 3 (nI (1 + 1))) 24 2 (-3)) 23 3 (nI (2 + 1))) 24 3 (-9)) 23 3 (nI (3 + 1))) 24 4 (-1)) 23 3 (nI (4 + 1))) 24 k = if k = 4 then (-1) else if k = 3 then (-9) else if k = 2 then (-3) else if k = 1 then 10 else if k = 0 then (-7) else v 24 k := fun k => by rw [p_up_a _ _ _ (by decide), up_at, p_up_a _ _ _ (by decide), up_at, p_up_a _ _ _ (by decide), up_at, p_up_a _ _ _ (by decide), up_at, p_up_a _ _ _ (by decide), up_at, p_up_a _ _ _ (by decide)]
  have ea : ∀ a, a ≠ 23 → a ≠ 24 → (zup (zup (zup (zup (zup (zup (zup (zup (zup (zup (zup v 23 3 0) 24 0 (-7)) 23 3 (nI (0 + 1))) 24 1 10) 23 3 (nI (1 + 1))) 24 2 (-3)) 23 3 (nI (2 + 1))) 24 3 (-9)) 23 3 (nI (3 + 1))) 24 4 (-1)) 23 3 (nI (4 + 1))) a = v a := fun a g1 g2 => by rw [p_up_a _ _ _ g1, p_up_a _ _ _ g2, p_up_a _ _ _ g1, p_up_a _ _ _ g2, p_up_a _ _ _ g1, p_up_a _ _ _ g2, p_up_a _ _ _ g1, p_up_a _ _ _ g2, p_up_a _ _ _ g1, p_up_a _ _ _ g2, p_up_a _ _ _ g1]
  have e3 : (zup (zup (zup (zup (zup (zup (zup (zup (zup (zup (zup v 23 3 0) 24 0 (-7)) 23 3 (nI (0 + 1))) 24 1 10) 23 3 (nI (1 + 1))) 24 2 (-3)) 23 3 (nI (2 + 1))) 24 3 (-9)) 23 3 (nI (3 + 1))) 24 4 (-1)) 23 3 (nI (4 + 1))) 23 3 = nI 5 := p_up_s _ _ _ _
  have hw : fX5_beUsual 23 v = some (zup (zup (zup (zup (zup (zup (zup (zup (zup (zup (zup v 23 3 0) 24 0 (-7)) 23 3 (nI (0 + 1))) 24 1 10) 23 3 (nI (1 + 1))) 24 2 (-3)) 23 3 (nI (2 + 1))) 24 3 (-9)) 23 3 (nI (3 + 1))) 24 4 (-1)) 23 3 (nI (4 + 1))) := by
    unfold fX5_beUsual
    rw [zlet_eq, p_add23 (k := 0) (v := zup v 23 3 0) (p_up_s _ _ _ _) (by decide), zbindv_some, p_add23 (k := 1) (p_up_s _ _ _ _) (by decide), zbindv_some, p_add23 (k := 2) (p_up_s _ _ _ _) (by decide), zbindv_some, p_add23 (k := 3) (p_up_s _ _ _ _) (by decide), zbindv_some, p_add23 (k := 4) (p_up_s _ _ _ _) (by decide), zbindv_some]
  generalize zup (zup (zup (zup (zup (zup (zup (zup (zup (zup (zup v 23 3 0) 24 0 (-7)) 23 3 (nI (0 + 1))) 24 1 10) 23 3 (nI (1 + 1))) 24 2 (-3)) 23 3 (nI (2 + 1))) 24 3 (-9)) 23 3 (nI (3 + 1))) 24 4 (-1)) 23 3 (nI (4 + 1)) = w at e24 ea e3 hw
  refine ⟨w, hw, ⟨e3, fun k hk => ?_⟩, ea⟩
  have : k = 0 ∨ k = 1 ∨ k = 2 ∨ k = 3 ∨ k = 4 := by have : sUsual.length = 5 := rfl; omega
  rw [e24]
  rcases this with rfl | rfl | rfl | rfl | rfl
  · show (-7 : Int32) = _
    decide +kernel
  · show (10 : Int32) = _
    decide +kernel
  · show (-3 : Int32) = _
    decide +kernel
  · show (-9 : Int32) = _
    decide +kernel
  · show (-1 : Int32) = _
    decide +kernel
theorem okL_usual : okL sUsual := by
  have w1 : ∀ (w x : Nat) (t : sL) (n : Nat), w < 2 → ((w = 0 → x ≤ 999) ∧ (w = 1 → x < 7)) → wfL t (n + 1) → wfL ((w, x) :: t) n := fun w x t n h1 h2 h3 => by
    unfold wfL
    rw [if_pos h1]
    exact ⟨h2, h3⟩
  have w2 : ∀ (w x : Nat) (t : sL) (n : Nat), ¬ w < 2 → w < 8 → 2 ≤ n → wfL t (n - 1) → wfL ((w, x) :: t) n := fun w x t n h1 h2 h3 h4 => by
    unfold wfL
    rw [if_neg h1]
    exact ⟨h2, h3, h4⟩
  exact ⟨w1 1 0 _ 0 (by decide) (by decide) (w1 0 10 _ 1 (by decide) (by decide) (w2 4 0 _ 2 (by decide) (by decide) (by decide) (w1 1 2 _ 1 (by decide) (by decide) (w2 2 0 _ 2 (by decide) (by decide) (by decide) rfl)))), by decide⟩
theorem case_1 {v : zV} (hInv : sInv v) (p1 : Int32) : ∃ w, fLc_1 p1 v = some w ∧ sInv w := by
  obtain ⟨α, l, β, ρ, ρb, im, tp, pl, r0, r1, hs, hI, hM⟩ := hInv
  have ha := hs.1
  have hl := hs.2.1
  have hbk := hs.2.2.1
  have hQ : CQ v α l ρ := ⟨hI.1, hI.2.2.1⟩
  have hO : OKs α l ρ := ⟨ha, hl, hs.2.2.2.1.1, hs.2.2.2.1.2⟩
  have hi := hs.2.2.2.2.2.2.1.1
  have hy := hs.2.2.2.1.2
  have oC : okC ρ := okW_C ha (ok_13 ha) hO.2.2.1
  have q1 : v 3 1 = nI (α 0 1) := hI.1.1.1.2.1
  have q0 : v 3 0 = nI (α 0 0) := hI.1.1.1.1
  have M16 : α 0 1 ≤ 16 := ha.1.2.1
  have Q6 : α 0 0 ≤ 6 := ha.1.1
  show ∃ w, zTail (zcatch (fX9_academy 0 p1 v) 603 none (some 1)) (fX10_academy 116 p1) = some w ∧ sInv w
  have h600 := hs.2.2.2.2.2.2.2.1
  have hby := hs.2.2.2.2.2.2.2.2
  have hT : tpC tp v := hI.2.2.2.2.2.1
  by_cases h2 : inB p1 0 tp.length
  case neg =>
    exact tl_N (z1 := 1) (y := 1) (z := 0) hs hI hM (by decide) (by unfold fX9_academy; rw [show (600 : Int32) = nI 600 from rfl, p_openN hT h600 (by decide) (by rw [Nat.min_eq_right h600]; exact h2), zbx_2]) (by decide) ⟨fun h => absurd h (by decide), fun _ => rfl⟩ (fun v2 b2 => by
      obtain ⟨g0, g1, g2, gQ, gD, gE⟩ := qM0 hs b2
      have u1 : (zup v2 116 0 0) 116 1 = nI tp.length := by rw [p_up_n _ _ (Or.inr (by decide))]; exact b2.2.2.2.2.2.2.2.2.1.1
      refine ⟨_, ?_, rfM_up v2 1 1⟩
      unfold fX10_academy fX10_academy_23
      rw [zlet_eq, u1, pinN (x := p1) (lo := 0) (hi := nI tp.length) (a := 0) (b := tp.length) (by decide) (by omega) rfl rfl h2, zbind_some, if_pos (show (0 : Int32) = 0 from rfl), pb1_11 g0, zbind_some, if_neg (show ¬ (1 : Int32) = 0 by decide)]
      rfl)
  obtain ⟨n, -, nlen, rfl⟩ := id h2
  have hL : (tp.take n).length ≤ 600 := by rw [len_take nlen]; omega
  obtain ⟨u, hu, uR, u11, ua⟩ := p_openY hT hby h600 nlen (show n ≤ 600 by omega) (by decide)
  obtain ⟨t, ht, tR, td, tf⟩ := p_acadRead uR
  have ta : ∀ a, a ≠ 1 → (a < 13 ∨ 22 < a) → t a = v a := fun a q1 q2 => (tf.1 a q1 q2).trans (ua a q1)
  have t11 : t 1 1 = nI 0 := by rw [tf.2 1 (by decide) (by decide) (by decide)]; exact u11
  have hcl : fX9_academy 0 (nI n) v = if t 1 2 = 0 then zbindv (fX0_copy 3 13 t) fun v_4 => zbindv (fX5_beUsual 23 v_4) fun v_5 => zlet (zup v_5 31 0 (0 : Int32)) fun v_6 => zlet (zup v_6 0 10 (0 : Int32)) fun v_7 => zbindv (fX7_open 37 3 v_7) fun v_8 => zbindv (fX7_copy 43 37 v_8) fun v_9 => some (0, v_9 3 1, v_9) else some (0, t 1 2 - 10, t) := by
    unfold fX9_academy
    rw [show (600 : Int32) = nI 600 from rfl, hu, zbx_0, rf_0_2, rf_0_0, ht, zbindv_some, rf_0_1, rf_0_3, rf_0_5, rf_0_7, rf_0_8]
  -- the reference
  have Lr : ∀ v2, pIM α l β ρ ρb im tp pl r0 r1 v2 → ∃ y, fX10_academy 116 (nI n) v2 = fX10_academy_71 116 y ∧ rdM (tp.take n) (tAc (tp.take n) 61 0 (α0n, false) (.inl (tSk (tp.take n) 0))).2 y ∧ (∀ q, (tAc (tp.take n) 61 0 (α0n, false) (.inl (tSk (tp.take n) 0))).2 = .inl q → eAc (tAc (tp.take n) 61 0 (α0n, false) (.inl (tSk (tp.take n) 0))).1.1 (tAc (tp.take n) 61 0 (α0n, false) (.inl (tSk (tp.take n) 0))).1.2 y) ∧ y 116 0 = nI 0 ∧ y 116 1 = nI 0 ∧ (∀ a, a ≠ 116 → (a < 119 ∨ 199 < a) → y a = v2 a) ∧ (∀ a, 119 < a → a ≠ 121 → a ≠ 123 → a ≠ 125 → (a < 128 ∨ 143 < a) → (a < 162 ∨ 173 < a) → (a < 188 ∨ 199 < a) → y a = v2 a) ∧ ∀ k, 8 < k → k ≠ 25 → y 116 k = v2 116 k := by
    intro v2 b2
    obtain ⟨g0, g1, g2, gQ, gD, gE⟩ := qM0 hs b2
    have u1 : (zup v2 116 0 0) 116 1 = nI tp.length := by rw [p_up_n _ _ (Or.inr (by decide))]; exact b2.2.2.2.2.2.2.2.2.1.1
    have uT : tpM tp (zup v2 116 0 0) := ⟨u1, fun k hk => by rw [p_up_a _ _ _ (by decide)]; exact b2.2.2.2.2.2.2.2.2.1.2 k hk⟩
    obtain ⟨y, hy, yR, yX, y1, y7, -, ya, yk⟩ := p_starts uT hby h600 nlen
    obtain ⟨z, hz, zE, za, zk⟩ := p_tellsN y
    have zR : rdM (tp.take n) (.inl (tSk (tp.take n) 0)) z := by
      obtain ⟨⟨k1, k2, k3⟩, p0, k4, k5, k6, k7, k8⟩ := yR
      exact ⟨⟨k1, by rw [zk 2 (by decide)]; exact k2, fun i hi => by rw [za 117 (by decide) (by decide)]; exact k3 i hi⟩, p0, k4, by rw [zk 4 (by decide)]; exact k5, by rw [zk 5 (by decide)]; exact k6, by rw [zk 6 (by decide)]; exact k7, k8⟩
    have zX : exM (.inl (tSk (tp.take n) 0)) z := fun p hp => by rw [zk 4 (by decide)]; exact yX p hp
    obtain ⟨x, hx, xR, xq, xf⟩ := p_mAcadL (L := tp.take n) 61 zFU 0 (α0n, false) _ z rfl (by unfold zFU; omega) zR zX (fun p _ => ⟨zE, okA_0, (zk 7 (by decide)).trans y7, Nat.zero_le _⟩)
    refine ⟨x, ?_, xR, fun q hq => (xq q hq).1, ?_, ?_, fun a q1 q2 => ?_, fun a q0 q1 q2 q3 q4 q5 q6 => ?_, fun k q1 q2 => ?_⟩
    · unfold fX10_academy fX10_academy_23
      rw [zlet_eq, u1, pinY (x := nI n) (lo := 0) (hi := nI tp.length) (a := 0) (b := tp.length) (by decide) (by omega) rfl rfl h2, zbind_some, if_neg (show ¬ (1 : Int32) = 0 by decide), pb0 g0, zbind_some, if_pos (show (0 : Int32) = 0 from rfl), hy, zbindv_some, hz, zbindv_some, hx]
    · rw [xf.2 0 (by decide) (by decide) (by decide) (by decide) (by decide), zk 0 (by decide), yk 0 (by decide) (by decide) (by decide) (by decide) (by decide) (by decide) (by decide)]; exact g0
    · rw [xf.2 1 (by decide) (by decide) (by decide) (by decide) (by decide), zk 1 (by decide)]; exact y1
    · rw [xf.1 a (by omega), za a q1 (by omega), ya a q1, p_up_a _ _ _ q1]
    · rw [xf.1 a (by omega), za a (by omega) (by omega), ya a (by omega), p_up_a _ _ _ (by omega)]
    · rw [xf.2 k (by omega) (by omega) (by omega) (by omega) q2, zk k q2, yk k (by omega) (by omega) (by omega) (by omega) (by omega) (by omega) (by omega), p_up_n _ _ (Or.inr (by omega))]
  cases hτ : (tAc (tp.take n) 61 0 (α0n, false) (.inl (tSk (tp.take n) 0))).2 with
  | inr f =>
    rw [hτ] at tR
    have hs' : okS α l β ρ ρb im [] := ⟨ha, hl, hbk, hs.2.2.2.1, hs.2.2.2.2.1, hs.2.2.2.2.2.1, hs.2.2.2.2.2.2.1, Nat.zero_le _, fun k hk => absurd hk (Nat.not_lt_zero k)⟩
    have t2 : t 1 2 = nI f.1 ∧ t 1 3 = nI f.2 ∧ 1 ≤ f.1 ∧ f.1 ≤ 4 := by obtain ⟨-, p0, -, -, k1, k2, k3, k4⟩ := tR; exact ⟨k1, k2, k3, k4⟩
    refine tl_G hs hs' hM (v1 := t) (r := nI f.1 - 10) (pl' := nI f.2) (r0' := r0) (r1' := r1) ?_ (fun a g1 g2 => ta a (by omega) (by omega)) (IC_text hi hI (fun a g1 g2 g3 g4 g5 => ta a g2 (by omega)) t11 t2.2.1) (fun v2 b2 => ?_)
    · rw [hcl, t2.1, if_neg (show ¬ nI f.1 = 0 from fun z => by have := (nI_is0 (by omega)).mp z; omega)]
    · obtain ⟨x, hx, xR, -, x0, x1, xa, xb, xk⟩ := Lr v2 b2
      rw [hτ] at xR
      refine ⟨zup x 116 3 (nI f.2), ?_, (p_up_n _ _ (Or.inr (by decide))).trans x0, fun a g => (p_up_a _ _ _ (by omega)).trans (xa a (by omega) (by omega)), IM_text ha hl hbk.1 hi b2 (fun a q1 q2 q3 q4 q5 q6 q7 q8 q9 q10 q11 => (p_up_a _ _ _ (by omega)).trans (by
          by_cases c : a < 119
          · exact xa a (by omega) (by omega)
          · exact xb a (by omega) q3 q4 q5 (by omega) (by omega) (by omega))) (fun k q0 q1 q2 q3 q4 q5 q6 q7 q8 q25 q27 => (p_up_n _ _ (Or.inr q3)).trans (xk k (by omega) q25)) ((p_up_n _ _ (Or.inr (by decide))).trans x1) (p_up_s _ _ _ _)⟩
      rw [hx]
      unfold fX10_academy_71
      rw [if_neg (rdM_n xR), p_ends xR, zbind_some]
  | inl q =>
    rw [hτ] at tR
    obtain ⟨hd, okP⟩ := td q hτ
    have t2 : t 1 2 = nI 0 ∧ t 1 3 = -nI 1 := by obtain ⟨-, p0, -, -, k1, k2, -⟩ := tR; exact ⟨k1, k2⟩
    have hE := fun v2 b2 => Lr v2 b2
    generalize hP : (tAc (tp.take n) 61 0 (α0n, false) (.inl (tSk (tp.take n) 0))).1 = P at okP hd hE
    have hd := hd.1
    generalize P.1 = α' at okP hd hE
    generalize P.2 = fl at hE
    obtain ⟨o1, o2⟩ := sOpen_ok okP
    have o13 : (sCh (sOpen α')).length ≤ 13 := by have := o1.1; have := okP.1.2.2.2.1; omega
    obtain ⟨s, hsC, sA, sa⟩ := p_acadCopy okP hd
    obtain ⟨s1, hs1, s1L, s1a⟩ := p_beUsual s
    have z1 : ∀ a, a ≠ 0 → a ≠ 31 → zup (zup s1 31 0 0) 0 10 0 a = s1 a := fun a g1 g2 => by rw [p_up_a _ _ _ g1, p_up_a _ _ _ g2]
    have z0 : ∀ k, k ≠ 10 → zup (zup s1 31 0 0) 0 10 0 0 k = s1 0 k := fun k g => by rw [p_up_n _ _ (Or.inr g), p_up_a _ _ _ (by decide)]
    have z10 : zup (zup s1 31 0 0) 0 10 0 0 10 = nI 0 := p_up_s _ _ _ _
    have z31 : zup (zup s1 31 0 0) 0 10 0 31 0 = nI 0 := by rw [p_up_a _ _ _ (by decide), p_up_s]; rfl
    have hz : ∀ K : zV → Option (Nat × Int32 × zV), zlet (zup s1 31 0 (0 : Int32)) (fun v_6 => zlet (zup v_6 0 10 (0 : Int32)) K) = K (zup (zup s1 31 0 0) 0 10 0) := fun K => by rw [zlet_eq, zlet_eq]
    generalize zup (zup s1 31 0 0) 0 10 0 = z at z1 z0 z10 z31 hz
    have zA : pCA 3 z α' := CA_fr sA (fun a g1 g2 => (z1 a (by omega) (by omega)).trans (s1a a (by omega) (by omega)))
    obtain ⟨s8, hs8, s8R, s8o⟩ := p_open r37 okP zA
    obtain ⟨s9, hs9, s9R, s9o⟩ := p_rowCopy r43.1 r37.1 (Or.inl (by decide)) s8R o13
    have hs' : okS α' sUsual [] (sOpen α') (sOpen α') [] [] := ⟨okP, okL_usual, ⟨Nat.zero_le _, fun k hk => absurd hk (Nat.not_lt_zero k)⟩, ⟨o1, by rw [o2]; decide⟩, o1, ⟨0, rfl, rfl, Or.inr ⟨by rw [(sOpen_at okP).2.2.2]; rfl, fun k hk => absurd hk (Nat.not_lt_zero k)⟩⟩, ⟨Nat.zero_le _, fun k hk => absurd hk (Nat.not_lt_zero k)⟩, Nat.zero_le _, fun k hk => absurd hk (Nat.not_lt_zero k)⟩
    have fz : ∀ a, (a < 37 ∨ 48 < a) → s9 a = z a := fun a g => (s9o a (by omega)).trans (s8o a (by omega))
    have fa : ∀ a, a ≠ 0 → a ≠ 1 → (a < 3 ∨ 24 < a) → a ≠ 31 → (a < 37 ∨ 48 < a) → s9 a = v a := fun a q1 q2 q3 q4 q5 => (fz a q5).trans ((z1 a q1 q4).trans ((s1a a (by omega) (by omega)).trans ((sa a (by omega)).trans (ta a q2 (by omega)))))
    have f1 : s9 1 = t 1 := (fz 1 (by omega)).trans ((z1 1 (by decide) (by decide)).trans ((s1a 1 (by decide) (by decide)).trans (sa 1 (by omega))))
    have f0 : ∀ k, k ≠ 10 → s9 0 k = v 0 k := fun k g => by rw [fz 0 (by omega), z0 k g, s1a 0 (by decide) (by decide), sa 0 (by omega), ta 0 (by decide) (by omega)]
    have A9 : pCA 3 s9 α' := CA_fr zA (fun a g1 g2 => fz a (by omega))
    refine tl_G hs hs' hM (v1 := s9) (r := nI (α' 0 1)) (pl' := -1) (r0' := r0) (r1' := r1) ?_ (fun a g1 g2 => fa a (by omega) (by omega) (by omega) (by omega) (by omega)) ?_ (fun v2 b2 => ?_)
    · rw [hcl, t2.1, if_pos (show nI 0 = 0 from rfl), hsC, zbindv_some, hs1, zbindv_some, hz, hs8, zbindv_some, hs9, zbindv_some, A9.1.2.1]
    · exact ⟨⟨A9, CL_fr s1L ((fz 23 (by omega)).trans (z1 23 (by decide) (by decide))) ((fz 24 (by omega)).trans (z1 24 (by decide) (by decide)))⟩, ⟨by rw [fz 31 (by omega)]; exact z31, fun k hk => absurd hk (Nat.not_lt_zero k)⟩, RC_fr s8R (fun a g1 g2 => s9o a (by omega)), s9R, ⟨by rw [fz 0 (by omega)]; exact z10, fun k hk => absurd hk (Nat.not_lt_zero k)⟩, ⟨by rw [f1]; exact t11, fun k hk => absurd hk (Nat.not_lt_zero k)⟩, by rw [f1]; exact t2.2, (f0 15 (by decide)).trans hI.2.2.2.2.2.2.2.1, (f0 16 (by decide)).trans hI.2.2.2.2.2.2.2.2⟩
    · obtain ⟨x, hx, xR, xE, x0, x1, xa, xb, xk⟩ := hE v2 b2
      rw [hτ] at xR
      obtain ⟨h0, h1, h2, h3, h4, h5, h6, h7⟩ := xE q hτ
      obtain ⟨⟨a0, a1, a2, a2', a3, a4, a5⟩, -⟩ := id okP
      have ya : ∀ a, a ≠ 116 → zup x 116 3 (-1) a = x a := fun a g => p_up_a _ _ _ g
      have yk : ∀ k, k ≠ 3 → zup x 116 3 (-1) 116 k = x 116 k := fun k g => p_up_n _ _ (Or.inr g)
      have y3 : zup x 116 3 (-1) 116 3 = -1 := p_up_s _ _ _ _
      have yE : eAc α' fl (zup x 116 3 (-1)) := ⟨fun k hk => by rw [ya 119 (by decide)]; exact h0 k hk, fun k hk => by rw [ya 121 (by decide)]; exact h1 k hk, fun k hk => by rw [ya 123 (by decide)]; exact h2 k hk, fun k hk => by rw [ya 125 (by decide)]; exact h3 k hk, fun m hm q hq => by rw [ya (128 + m) (by omega)]; exact h4 m hm q hq, fun k hk j hj => by rw [ya (162 + k) (by omega)]; exact h5 k hk j hj, fun k hk j hj => by rw [ya (188 + k) (by omega)]; exact h6 k hk j hj, by rw [yk 25 (by decide)]; exact h7⟩
      have hy : fX10_academy_71 116 x = zbindv (fX10_stands 116 (zup x 116 3 (-1))) fun v_2 => zix (1 : Int32) 6 <| some (v_2 120 ((1 : Int32)).toNatClampNeg, v_2) := by
        unfold fX10_academy_71
        rw [rdM_0 xR, if_pos (show nI 0 = 0 from rfl), zlet_eq, rx_12, lS.1]
      generalize zup x 116 3 (-1) = y at ya yk y3 yE hy
      obtain ⟨w, hw, wA, w7, w8, w9, k26, k40, k41, k42, wa, wk⟩ := p_stands okP yE
      have fin : ∀ a, a ≠ 116 → (a < 119 ∨ 212 < a) → a ≠ 567 → a ≠ 568 → a ≠ 569 → w a = v2 a := fun a q1 q2 q3 q4 q5 => (wa a q1 q2 q3 q4 q5).trans ((ya a q1).trans (xa a q1 (by omega)))
      have fik : ∀ k, k ≠ 3 → k ≠ 26 → k ≠ 40 → k ≠ 41 → k ≠ 42 → w 116 k = x 116 k := fun k q1 q2 q3 q4 q5 => (wk k q2 q3 q4 q5).trans (yk k q1)
      refine ⟨w, ?_, (fik 0 (by decide) (by decide) (by decide) (by decide) (by decide)).trans x0, fun a g => fin a (by omega) (by omega) (by omega) (by omega) (by omega), ?_⟩
      · rw [hx, hy, hw, zbindv_some, show (1 : Int32) = nI 1 from rfl, zix_nI (by decide) (by decide), nI_cl' (show 1 < 2 ^ 31 by decide), wA.1 1 (by decide)]
      · obtain ⟨-, -, -, -, -, ⟨h44, h46, h47⟩, -, -, -, -, c12, c13⟩ := b2
        have kk : ∀ k, 42 < k → w 116 k = v2 116 k := fun k q1 => (fik k (by omega) (by omega) (by omega) (by omega) (by omega)).trans (xk k (by omega) (by omega))
        exact ⟨⟨wA, Or.inl ⟨k26, rfl⟩⟩, ⟨k40, fun k hk => absurd hk (Nat.not_lt_zero k)⟩, w7, w8, w9, ⟨(kk 44 (by decide)).trans h44, (kk 46 (by decide)).trans h46, (kk 47 (by decide)).trans h47⟩, by rw [k41, Nat.sub_self], ⟨k42, fun k hk => absurd hk (Nat.not_lt_zero k)⟩, ⟨(fik 1 (by decide) (by decide) (by decide) (by decide) (by decide)).trans x1, fun k hk => absurd hk (Nat.not_lt_zero k)⟩, (wk 3 (by decide) (by decide) (by decide) (by decide)).trans y3, by rw [fin 118 (by decide) (by decide) (by decide) (by decide) (by decide)]; exact c12, by rw [fin 118 (by decide) (by decide) (by decide) (by decide) (by decide)]; exact c13⟩
end
