/-! the class's row, gone on: copies, the start, praise aside -/
section
theorem zc_n {v : zV} {i j sp dp n a : Nat} (h : a ≠ j) : zcp v i j sp dp n a = v a := if_neg h
theorem zc_s {v : zV} {i j n k : Nat} (h : k < n) : zcp v i j 0 0 n j k = v i k := by
  unfold zcp
  rw [if_pos rfl, pk_cpy_in (Nat.zero_le _) (by omega), Nat.zero_add, Nat.sub_zero]
theorem zcpk_0 {β : Type} {i j n : Nat} (h1 : n ≤ zlen i) (h2 : n ≤ zlen j) (hn : n < 2 ^ 31) (k : Option β) : zcpk i j (nI 0) (nI 0) (nI n) k = k := by
  unfold zcpk
  rw [if_pos]
  refine ⟨nI_pos (by omega), nI_pos (by omega), nI_pos hn, ?_, ?_⟩
  · rw [nI_clamp (by omega), nI_clamp hn]; omega
  · rw [nI_clamp (by omega), nI_clamp hn]; omega
theorem RC_ext {i j : Nat} {v w : zV} {ρ : sR} (h : RC j v ρ) (hl : (sCh ρ).length ≤ 13) (e0 : ∀ k, k < 8 → w i k = v j k) (e1 : ∀ k, k < 13 → w (i + 1) k = v (j + 1) k) (e2 : ∀ k, k < 16 → w (i + 2) k = v (j + 2) k) (e3 : ∀ k, k < 16 → w (i + 3) k = v (j + 3) k) (e4 : ∀ k, k < 16 → w (i + 4) k = v (j + 4) k) (e5 : ∀ k, k < 16 → w (i + 5) k = v (j + 5) k) : RC i w ρ := by
  obtain ⟨⟨h0, h1, h2, h3, h4, h5, h6, h7⟩, hch, hst, hwt, hsn, has⟩ := h
  refine ⟨⟨?_, ?_, ?_, ?_, ?_, ?_, ?_, ?_⟩, fun k hk => ?_, fun m hm => ?_, fun m hm => ?_, fun m hm => ?_, fun m hm => ?_⟩
  · rw [e0 0 (by decide)]; exact h0
  · rw [e0 1 (by decide)]; exact h1
  · rw [e0 2 (by decide)]; exact h2
  · rw [e0 3 (by decide)]; exact h3
  · rw [e0 4 (by decide)]; exact h4
  · rw [e0 5 (by decide)]; exact h5
  · rw [e0 6 (by decide)]; exact h6
  · rw [e0 7 (by decide)]; exact h7
  · rw [e1 k (by omega)]; exact hch k hk
  · rw [e2 m hm]; exact hst m hm
  · rw [e3 m hm]; exact hwt m hm
  · rw [e4 m hm]; exact hsn m hm
  · rw [e0 7 (by decide), e0 0 (by decide), e5 m hm]; exact has m hm
theorem RC_fr {i : Nat} {v w : zV} {ρ : sR} (h : RC i v ρ) (e : ∀ a, i ≤ a → a ≤ i + 5 → w a = v a) : RC i w ρ := by
  obtain ⟨h0, hch, hst, hwt, hsn, has⟩ := h
  refine ⟨?_, fun k hk => ?_, fun m hm => ?_, fun m hm => ?_, fun m hm => ?_, fun m hm => ?_⟩
  · rw [e i (by omega) (by omega)]; exact h0
  · rw [e (i + 1) (by omega) (by omega)]; exact hch k hk
  · rw [e (i + 2) (by omega) (by omega)]; exact hst m hm
  · rw [e (i + 3) (by omega) (by omega)]; exact hwt m hm
  · rw [e (i + 4) (by omega) (by omega)]; exact hsn m hm
  · rw [e i (by omega) (by omega), e (i + 5) (by omega) (by omega)]; exact has m hm
theorem p_rowCopy {i j : Nat} (hi : isRow i) (hj : isRow j) (hij : j + 5 < i ∨ i + 5 < j) {v : zV} {ρ : sR} (h : RC j v ρ) (hl : (sCh ρ).length ≤ 13) : ∃ w, fX7_copy i j v = some w ∧ RC i w ρ ∧ onlyR i v w := by
  obtain ⟨r8, r9, r10, r11, r12, l1, l2, l3, l4, l5⟩ := hi
  obtain ⟨s8, s9, s10, s11, s12, k1, k2, k3, k4, k5⟩ := hj
  unfold fX7_copy
  simp (disch := omega) only [i_0, i_13, i_16, r8, r9, r10, r11, r12, s8, s9, s10, s11, s12, zlet_eq, nI_cl', zcpk_0]
  refine ⟨_, rfl, RC_ext h hl (fun k hk => ?_) (fun k hk => ?_) (fun k hk => ?_) (fun k hk => ?_) (fun k hk => ?_) (fun k hk => ?_), fun a ha => ?_⟩
  · simp (disch := omega) only [zc_n]
    have hk8 : k = 0 ∨ k = 1 ∨ k = 2 ∨ k = 3 ∨ k = 4 ∨ k = 5 ∨ k = 6 ∨ k = 7 := by omega
    have hne : j ≠ i := by omega
    rcases hk8 with rfl | rfl | rfl | rfl | rfl | rfl | rfl | rfl <;> simp [p_up, hne]
  · simp (disch := omega) only [zc_n, zc_s, p_up_a]
  · simp (disch := omega) only [zc_n, zc_s, p_up_a]
  · simp (disch := omega) only [zc_n, zc_s, p_up_a]
  · simp (disch := omega) only [zc_n, zc_s, p_up_a]
  · simp (disch := omega) only [zc_n, zc_s, p_up_a]
  · simp (disch := omega) only [zc_n, p_up_a]
/-- praise aside of this year -/
theorem p_praiseAside {i : Nat} (hi : isRow i) {v : zV} {ρ : sR} (h : RC i v ρ) {m : Nat} (hm : m < 16) : fX7_praiseAside i (nI m) v = some (sAs ρ m, v) := by
  obtain ⟨-, -, -, -, -, has⟩ := h
  obtain ⟨-, -, -, -, r12, -, -, -, -, l5⟩ := hi
  unfold fX7_praiseAside
  rw [← has m hm]
  by_cases e : v i 7 = v i 0
  · rw [if_pos e, if_pos e, r12, p_get (by rw [l5]; exact hm)]
    rfl
  · rw [if_neg e, if_neg e]
def sAdd (ρ : sR) (m : Nat) (x : Int32) : sR := rUpAs ρ (sUp (sAs ρ) m (sAs ρ m + x))
theorem p_praiseM43 {i : Nat} (hi : isRow i) {v : zV} {ρ : sR} (h : RC i v ρ) (h7 : v i 7 = v i 0) {m : Nat} (hm : m < 16) (x : Int32) : ∃ w, fX7_praiseMore_43 i (nI m) x v = some w ∧ RC i w (sAdd ρ m x) ∧ onlyR i v w := by
  obtain ⟨h0, hch, hst, hwt, hsn, has⟩ := h
  obtain ⟨-, -, -, -, r12, -, -, -, -, l5⟩ := hi
  have e0 : ∀ a, a ≠ i + 5 → zup v (i + 5) m (v (i + 5) m + x) a = v a := fun a ha => p_up_a v _ _ ha
  refine ⟨zup v (i + 5) m (v (i + 5) m + x), ?_, ⟨?_, fun k hk => ?_, fun k hk => ?_, fun k hk => ?_, fun k hk => ?_, fun k hk => ?_⟩, onlyR_up v m _ (by omega) (by omega)⟩
  · unfold fX7_praiseMore_43
    rw [r12, p_get (by rw [l5]; exact hm)]
    show zbindv (fX9_set (i + 5) (nI m) (v (i + 5) m + x) v) _ = _
    rw [p_set (by rw [l5]; exact hm)]
    rfl
  · rw [e0 i (by omega)]; exact h0
  · rw [e0 (i + 1) (by omega)]; exact hch k hk
  · rw [e0 (i + 2) (by omega)]; exact hst k hk
  · rw [e0 (i + 3) (by omega)]; exact hwt k hk
  · rw [e0 (i + 4) (by omega)]; exact hsn k hk
  · rw [e0 i (by omega), if_pos h7, p_up]
    show _ = sUp (sAs ρ) m (sAs ρ m + x) k
    have h8 := has k hk
    rw [if_pos h7] at h8
    unfold sUp
    by_cases e : k = m
    · rw [if_pos ⟨rfl, e⟩, if_pos e, ← e, h8]
    · rw [if_neg (fun q => e q.2), if_neg e, h8]
theorem p_praiseM21 {i : Nat} (hi : isRow i) {ρ : sR} {m : Nat} (hm : m < 16) (x : Int32) (v0 : zV) : ∀ (d n j : Nat) (v : zV), j + d = 16 → d < n → RC i v (rUpAs ρ (fun k => if k < j then 0 else v (i + 5) k)) → v i 7 = v i 0 → (∀ k, sAs ρ k = 0) → onlyR i v0 v → ∃ w, fX7_praiseMore_21 n i (nI m) x (nI j) v = some w ∧ RC i w (sAdd ρ m x) ∧ onlyR i v0 w := by
  intro d
  induction d with
  | zero =>
    intro n j v e hn h h7 h0 hon
    obtain ⟨n, rfl⟩ : ∃ k, n = k + 1 := ⟨n - 1, by omega⟩
    obtain rfl : j = 16 := by omega
    have hs : RC i v ρ := by
      obtain ⟨g0, hch, hst, hwt, hsn, has⟩ := h
      refine ⟨g0, hch, hst, hwt, hsn, fun k hk => ?_⟩
      rw [has k hk]
      show (if k < 16 then 0 else v (i + 5) k) = _
      rw [if_pos hk, h0]
    rw [fX7_praiseMore_21]
    dsimp only
    rw [hi.2.2.2.2.1, hi.2.2.2.2.2.2.2.2.2, if_pos (by decide)]
    obtain ⟨w, h1, h2, h3⟩ := p_praiseM43 hi hs h7 hm x
    exact ⟨w, h1, h2, onlyR_tr hon h3⟩
  | succ d ih =>
    intro n j v e hn h h7 h0 hon
    obtain ⟨n, rfl⟩ : ∃ k, n = k + 1 := ⟨n - 1, by omega⟩
    rw [fX7_praiseMore_21]
    dsimp only
    have l5 := hi.2.2.2.2.2.2.2.2.2
    rw [hi.2.2.2.2.1, l5, if_neg (show ¬ Int32.ofNat 16 ≤ nI j from nI_ge (by omega) (by omega)), zix_nI (by omega) (by omega), nI_clamp (by omega), zlet_eq, nI_1]
    have hn0 : i ≠ i + 5 := by omega
    refine ih n (j + 1) (zup v (i + 5) j 0) (by omega) (by omega) ?_ (by rw [p_up_a v _ _ hn0]; exact h7) h0 (onlyR_tr hon (onlyR_up v j _ (by omega) (by omega)))
    obtain ⟨g0, hch, hst, hwt, hsn, has⟩ := h
    have e0 : ∀ a, a ≠ i + 5 → zup v (i + 5) j 0 a = v a := fun a ha => p_up_a v _ _ ha
    refine ⟨?_, fun k hk => ?_, fun k hk => ?_, fun k hk => ?_, fun k hk => ?_, fun k hk => ?_⟩
    · rw [e0 i (by omega)]; exact g0
    · rw [e0 (i + 1) (by omega)]; exact hch k hk
    · rw [e0 (i + 2) (by omega)]; exact hst k hk
    · rw [e0 (i + 3) (by omega)]; exact hwt k hk
    · rw [e0 (i + 4) (by omega)]; exact hsn k hk
    · rw [e0 i (by omega), if_pos h7]
      show _ = if k < j + 1 then 0 else zup v (i + 5) j 0 (i + 5) k
      have h8 : (if v i 7 = v i 0 then v (i + 5) k else 0) = (if k < j then 0 else v (i + 5) k) := has k hk
      rw [if_pos h7] at h8
      by_cases e : k = j
      · rw [e, p_up_s, if_pos (by omega)]
      · rw [p_up_n v _ (Or.inr e)]
        by_cases e2 : k < j
        · rw [if_pos (by omega), h8, if_pos e2]
        · rw [if_neg (by omega)]
theorem p_praiseMore {i : Nat} (hi : isRow i) {v : zV} {ρ : sR} (h : RC i v ρ) {m : Nat} (hm : m < 16) (x : Int32) : ∃ w, fX7_praiseMore i (nI m) x v = some w ∧ RC i w (sAdd ρ m x) ∧ onlyR i v w := by
  unfold fX7_praiseMore
  by_cases e : v i 7 = v i 0
  · rw [if_pos e]
    exact p_praiseM43 hi h e hm x
  · rw [if_neg e, zlet_eq]
    obtain ⟨⟨h0, h1, h2, h3, h4, h5, h6, h7⟩, hch, hst, hwt, hsn, has⟩ := h
    have ea : ∀ k, k < 16 → sAs ρ k = 0 := fun k hk => by rw [← has k hk, if_neg e]
    have e0 : ∀ a, a ≠ i → zup v i 7 (v i 0) a = v a := fun a ha => p_up_a v _ _ ha
    have e7 : ∀ k, k ≠ 7 → zup v i 7 (v i 0) i k = v i k := fun k hk => p_up_n v _ (Or.inr hk)
    have hr : RC i (zup v i 7 (v i 0)) (rUpAs (rUpAs ρ (fun _ => 0)) (fun k => if k < 0 then 0 else zup v i 7 (v i 0) (i + 5) k)) := by
      refine ⟨⟨?_, ?_, ?_, ?_, ?_, ?_, ?_, sSc ρ 0, Nat.le_refl _, ?_⟩, fun k hk => ?_, fun k hk => ?_, fun k hk => ?_, fun k hk => ?_, fun k hk => ?_⟩
      · rw [e7 0 (by decide)]; exact h0
      · rw [e7 1 (by decide)]; exact h1
      · rw [e7 2 (by decide)]; exact h2
      · rw [e7 3 (by decide)]; exact h3
      · rw [e7 4 (by decide)]; exact h4
      · rw [e7 5 (by decide)]; exact h5
      · rw [e7 6 (by decide)]; exact h6
      · rw [p_up_s]; exact h0
      · rw [e0 (i + 1) (by omega)]; exact hch k hk
      · rw [e0 (i + 2) (by omega)]; exact hst k hk
      · rw [e0 (i + 3) (by omega)]; exact hwt k hk
      · rw [e0 (i + 4) (by omega)]; exact hsn k hk
      · rw [p_up_s, e7 0 (by decide), if_pos rfl]
        rfl
    obtain ⟨w, g1, g2, g3⟩ := p_praiseM21 hi (ρ := rUpAs ρ (fun _ => 0)) hm x v 16 zFU 0 (zup v i 7 (v i 0)) rfl (by unfold zFU; omega) hr (by rw [p_up_s, e7 0 (by decide)]) (fun _ => rfl) (onlyR_up v 7 _ (by omega) (by omega))
    refine ⟨w, g1, ?_, g3⟩
    obtain ⟨f0, fch, fst, fwt, fsn, fas⟩ := g2
    refine ⟨f0, fch, fst, fwt, fsn, fun k hk => ?_⟩
    rw [fas k hk]
    show sUp (fun _ => (0 : Int32)) m (0 + x) k = sUp (sAs ρ) m (sAs ρ m + x) k
    unfold sUp
    by_cases e : k = m
    · rw [if_pos e, if_pos e, ea m hm]
    · rw [if_neg e, if_neg e, ea k hk]
end
