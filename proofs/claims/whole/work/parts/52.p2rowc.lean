/-! the class's row: what its writes do -/
def rUpCh (ρ : sR) (l : List Nat) : sR := (l, ρ.2)
def rUpSt (ρ : sR) (f : Nat → Nat) : sR := (ρ.1, f, ρ.2.2)
def rUpWt (ρ : sR) (f : Nat → Nat) : sR := (ρ.1, ρ.2.1, f, ρ.2.2.2)
def rUpSn (ρ : sR) (f : Nat → Int32) : sR := (ρ.1, ρ.2.1, ρ.2.2.1, f, ρ.2.2.2.2)
def rUpSc (ρ : sR) (f : Nat → Nat) : sR := (ρ.1, ρ.2.1, ρ.2.2.1, ρ.2.2.2.1, f, ρ.2.2.2.2.2)
def rUpAs (ρ : sR) (f : Nat → Int32) : sR := (ρ.1, ρ.2.1, ρ.2.2.1, ρ.2.2.2.1, ρ.2.2.2.2.1, f)
theorem p_vacL {i : Nat} (hi : isRow i) {len : Nat} (hl13 : len ≤ 13) : ∀ (d n j : Nat) (v : zV), d = len - j → 1 ≤ j → j ≤ len → v i 1 = nI len → d < n → ∃ w, fX7_vacate_17 n i (nI j) v = some (zup w i 1 (nI len - 1)) ∧ (∀ a, a ≠ i + 1 → w a = v a) ∧ ∀ c, w (i + 1) c = if j - 1 ≤ c ∧ c + 1 < len then v (i + 1) (c + 1) else v (i + 1) c := by
  intro d
  induction d with
  | zero =>
    intro n j v hd h1 hj hl hn
    obtain ⟨n, rfl⟩ : ∃ k, n = k + 1 := ⟨n - 1, by omega⟩
    have e : j = len := by omega
    subst e
    refine ⟨v, ?_, fun _ _ => rfl, fun c => ?_⟩
    · rw [fX7_vacate_17]
      dsimp only
      rw [hl, if_pos (Int32.le_refl _)]
      rfl
    · rw [if_neg (by omega)]
  | succ d ih =>
    intro n j v hd h1 hj hl hn
    obtain ⟨n, rfl⟩ : ∃ k, n = k + 1 := ⟨n - 1, by omega⟩
    have hjl : j < len := by omega
    have hne : i ≠ i + 1 := by omega
    obtain ⟨w, hw, ha, hc⟩ := ih n (j + 1) (zup v (i + 1) (j - 1) (v (i + 1) j)) (by omega) (by omega) (by omega) (by rw [p_up_a v _ _ hne]; exact hl) (by omega)
    refine ⟨w, ?_, fun a h => (ha a h).trans (p_up_a v _ _ h), fun c => ?_⟩
    · rw [fX7_vacate_17]
      dsimp only
      rw [hl, if_neg (nI_ge hjl (by omega)), hi.1, p_get (by rw [hi.2.2.2.2.2.1]; omega)]
      show zbindv (fX9_set (i + 1) (nI j - 1) (v (i + 1) j) v) _ = _
      have e : nI j - 1 = nI (j - 1) := pk_sub (b := 1) h1
      rw [e, p_set (by rw [hi.2.2.2.2.2.1]; omega)]
      show fX7_vacate_17 n i (nI j + 1) (zup v (i + 1) (j - 1) (v (i + 1) j)) = _
      rw [nI_1]
      exact hw
    · rw [hc c]
      by_cases h9 : j + 1 - 1 ≤ c ∧ c + 1 < len
      · rw [if_pos h9, if_pos (by omega), p_up_n v _ (Or.inr (by omega))]
      · rw [if_neg h9]
        by_cases h8 : c = j - 1
        · subst h8
          rw [p_up_s, if_pos (by omega), show j - 1 + 1 = j by omega]
        · rw [p_up_n v _ (Or.inr h8), if_neg (by omega)]
theorem p_vacate {i : Nat} (hi : isRow i) {v : zV} {ρ : sR} (h : RC i v ρ) (ho : okR ρ) {c : Nat} (hc : c < (sCh ρ).length) : ∃ w, fX7_vacate i (nI c) v = some w ∧ RC i w (rUpCh ρ ((sCh ρ).eraseIdx c)) ∧ onlyR i v w := by
  obtain ⟨⟨h0, hl, h2, h3, h4, h5, h6⟩, hch, hst, hwt, hsn, has⟩ := h
  have h13 := ho.1
  obtain ⟨w, hw, ha, hcc⟩ := p_vacL hi h13 _ zFU (c + 1) v rfl (by omega) (by omega) hl (by unfold zFU; omega)
  have hlen : ((sCh ρ).eraseIdx c).length = (sCh ρ).length - 1 := by rw [List.length_eraseIdx, if_pos hc]
  have e1 : nI (sCh ρ).length - 1 = nI ((sCh ρ).length - 1) := pk_sub (b := 1) (by omega)
  refine ⟨zup w i 1 (nI (sCh ρ).length - 1), ?_, ?_, fun a h => ?_⟩
  · unfold fX7_vacate
    rw [if_neg (nI_pos (by omega)), hl, if_pos (nI_lt hc (by omega)), nI_1]
    exact hw
  · have hi0 : ∀ k, k ≠ 1 → zup w i 1 (nI (sCh ρ).length - 1) i k = v i k := fun k hk => by rw [p_up_n w _ (Or.inr hk), ha i (by omega)]
    have hia : ∀ a, a ≠ i → a ≠ i + 1 → zup w i 1 (nI (sCh ρ).length - 1) a = v a := fun a h1 h2 => by rw [p_up_a w _ _ h1, ha a h2]
    refine ⟨⟨?_, ?_, ?_, ?_, ?_, ?_, ?_⟩, fun k hk => ?_, fun m hm => ?_, fun m hm => ?_, fun m hm => ?_, fun m hm => ?_⟩
    · rw [hi0 0 (by decide)]; exact h0
    · rw [p_up_s, e1]
      exact congrArg nI hlen.symm
    · rw [hi0 2 (by decide)]; exact h2
    · rw [hi0 3 (by decide)]; exact h3
    · rw [hi0 4 (by decide)]; exact h4
    · rw [hi0 5 (by decide)]; exact h5
    · rw [hi0 6 (by decide)]; exact h6
    · have hk' : k < (sCh ρ).length - 1 := by
        have : k < ((sCh ρ).eraseIdx c).length := hk
        omega
      rw [p_up_a w _ _ (by omega : i + 1 ≠ i), hcc k]
      show _ = nI (((sCh ρ).eraseIdx c).getD k 0)
      rw [List.getD_eq_getElem?_getD, List.getElem?_eraseIdx]
      by_cases hkc : k < c
      · rw [if_neg (by omega), if_pos hkc, hch k (by omega), List.getD_eq_getElem?_getD]
      · rw [if_pos (by omega), if_neg hkc, hch (k + 1) (by omega), List.getD_eq_getElem?_getD]
    · rw [hia _ (by omega) (by omega)]; exact hst m hm
    · rw [hia _ (by omega) (by omega)]; exact hwt m hm
    · rw [hia _ (by omega) (by omega)]; exact hsn m hm
    · rw [hi0 7 (by decide), hi0 0 (by decide), hia _ (by omega) (by omega)]; exact has m hm
  · rw [p_up_a w _ _ (by omega), ha a (by omega)]
