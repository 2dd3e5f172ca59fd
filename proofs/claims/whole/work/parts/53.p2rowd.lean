theorem RC_st {i : Nat} {v : zV} {ρ : sR} (h : RC i v ρ) {m : Nat} (s : Nat) : RC i (zup v (i + 2) m (nI s)) (rUpSt ρ (sUp (sSt ρ) m s)) := by
  obtain ⟨h0, hch, hst, hwt, hsn, has⟩ := h
  have e0 : ∀ a, a ≠ i + 2 → zup v (i + 2) m (nI s) a = v a := fun a ha => p_up_a v _ _ ha
  refine ⟨?_, fun k hk => ?_, fun k hk => ?_, fun k hk => ?_, fun k hk => ?_, fun k hk => ?_⟩
  · rw [e0 i (by omega)]; exact h0
  · rw [e0 (i + 1) (by omega)]; exact hch k hk
  · rw [p_up]
    show _ = nI (sUp (sSt ρ) m s k)
    unfold sUp
    by_cases e : k = m
    · rw [if_pos ⟨rfl, e⟩, if_pos e]
    · rw [if_neg (fun q => e q.2), if_neg e]; exact hst k hk
  · rw [e0 (i + 3) (by omega)]; exact hwt k hk
  · rw [e0 (i + 4) (by omega)]; exact hsn k hk
  · rw [e0 i (by omega), e0 (i + 5) (by omega)]; exact has k hk
theorem RC_wt {i : Nat} {v : zV} {ρ : sR} (h : RC i v ρ) {m : Nat} (s : Nat) : RC i (zup v (i + 3) m (nI s)) (rUpWt ρ (sUp (sWt ρ) m s)) := by
  obtain ⟨h0, hch, hst, hwt, hsn, has⟩ := h
  have e0 : ∀ a, a ≠ i + 3 → zup v (i + 3) m (nI s) a = v a := fun a ha => p_up_a v _ _ ha
  refine ⟨?_, fun k hk => ?_, fun k hk => ?_, fun k hk => ?_, fun k hk => ?_, fun k hk => ?_⟩
  · rw [e0 i (by omega)]; exact h0
  · rw [e0 (i + 1) (by omega)]; exact hch k hk
  · rw [e0 (i + 2) (by omega)]; exact hst k hk
  · rw [p_up]
    show _ = nI (sUp (sWt ρ) m s k)
    unfold sUp
    by_cases e : k = m
    · rw [if_pos ⟨rfl, e⟩, if_pos e]
    · rw [if_neg (fun q => e q.2), if_neg e]; exact hwt k hk
  · rw [e0 (i + 4) (by omega)]; exact hsn k hk
  · rw [e0 i (by omega), e0 (i + 5) (by omega)]; exact has k hk
theorem RC_sn {i : Nat} {v : zV} {ρ : sR} (h : RC i v ρ) {m : Nat} (s : Int32) : RC i (zup v (i + 4) m s) (rUpSn ρ (sUp (sSn ρ) m s)) := by
  obtain ⟨h0, hch, hst, hwt, hsn, has⟩ := h
  have e0 : ∀ a, a ≠ i + 4 → zup v (i + 4) m s a = v a := fun a ha => p_up_a v _ _ ha
  refine ⟨?_, fun k hk => ?_, fun k hk => ?_, fun k hk => ?_, fun k hk => ?_, fun k hk => ?_⟩
  · rw [e0 i (by omega)]; exact h0
  · rw [e0 (i + 1) (by omega)]; exact hch k hk
  · rw [e0 (i + 2) (by omega)]; exact hst k hk
  · rw [e0 (i + 3) (by omega)]; exact hwt k hk
  · rw [p_up]
    show _ = sUp (sSn ρ) m s k
    unfold sUp
    by_cases e : k = m
    · rw [if_pos ⟨rfl, e⟩, if_pos e]
    · rw [if_neg (fun q => e q.2), if_neg e]; exact hsn k hk
  · rw [e0 i (by omega), e0 (i + 5) (by omega)]; exact has k hk
/-- a count of the row: the field k of the object is the count j -/
def scAt (k j : Nat) : Prop := (k = 2 ∧ j = 1) ∨ (k = 3 ∧ j = 2) ∨ (k = 4 ∧ j = 3) ∨ (k = 5 ∧ j = 4) ∨ (k = 6 ∧ j = 5)
theorem RC_sc {i : Nat} {v : zV} {ρ : sR} (h : RC i v ρ) {k j : Nat} (hk : scAt k j) (s : Nat) : RC i (zup v i k (nI s)) (rUpSc ρ (sUp (sSc ρ) j s)) := by
  obtain ⟨⟨h0, h1, h2, h3, h4, h5, h6⟩, hch, hst, hwt, hsn, has⟩ := h
  have e0 : ∀ a, a ≠ i → zup v i k (nI s) a = v a := fun a ha => p_up_a v _ _ ha
  have e7 : zup v i k (nI s) i 7 = v i 7 := p_up_n v _ (Or.inr (by rcases hk with h | h | h | h | h <;> omega))
  have e00 : zup v i k (nI s) i 0 = v i 0 := p_up_n v _ (Or.inr (by rcases hk with h | h | h | h | h <;> omega))
  refine ⟨?_, fun k hk => ?_, fun k hk => ?_, fun k hk => ?_, fun k hk => ?_, fun k hk => ?_⟩
  · show zup v i k (nI s) i 0 = nI (sUp (sSc ρ) j s 0) ∧ zup v i k (nI s) i 1 = nI (sCh ρ).length ∧ zup v i k (nI s) i 2 = nI (sUp (sSc ρ) j s 1) ∧ zup v i k (nI s) i 3 = nI (sUp (sSc ρ) j s 2) ∧ zup v i k (nI s) i 4 = nI (sUp (sSc ρ) j s 3) ∧ zup v i k (nI s) i 5 = nI (sUp (sSc ρ) j s 4) ∧ zup v i k (nI s) i 6 = nI (sUp (sSc ρ) j s 5)
    rcases hk with ⟨rfl, rfl⟩ | ⟨rfl, rfl⟩ | ⟨rfl, rfl⟩ | ⟨rfl, rfl⟩ | ⟨rfl, rfl⟩ <;> simp [p_up, sUp, h0, h1, h2, h3, h4, h5, h6]
  · rw [e0 (i + 1) (by omega)]; exact hch k hk
  · rw [e0 (i + 2) (by omega)]; exact hst k hk
  · rw [e0 (i + 3) (by omega)]; exact hwt k hk
  · rw [e0 (i + 4) (by omega)]; exact hsn k hk
  · rw [e7, e00, e0 (i + 5) (by omega)]; exact has k hk
/-- a man leaves his chair -/
def sLeave (ρ : sR) (c : Nat) : sR := rUpCh (rUpSc (rUpSt ρ (sUp (sSt ρ) ((sCh ρ).getD c 0) 2)) (sUp (sSc ρ) 3 (sSc ρ 3 + 1))) ((sCh ρ).eraseIdx c)
theorem p_leave {i : Nat} (hi : isRow i) {v : zV} {ρ : sR} (h : RC i v ρ) (ho : okR ρ) {c : Nat} (hc : c < (sCh ρ).length) : ∃ w, fX7_leave i (nI c) v = some w ∧ RC i w (sLeave ρ c) ∧ onlyR i v w := by
  have h13 := ho.1
  have hm : (sCh ρ).getD c 0 < 16 := by
    rw [List.getD_eq_getElem?_getD, List.getElem?_eq_getElem hc]
    exact ho.2.1 _ (List.getElem_mem hc)
  have h1 := RC_st h (m := (sCh ρ).getD c 0) 2
  have h2 := RC_sc h1 (k := 4) (j := 3) (Or.inr (Or.inr (Or.inl ⟨rfl, rfl⟩))) (sSc ρ 3 + 1)
  obtain ⟨w, hw, hr, hon⟩ := p_vacate hi h2 (ρ := rUpSc (rUpSt ρ (sUp (sSt ρ) ((sCh ρ).getD c 0) 2)) (sUp (sSc ρ) 3 (sSc ρ 3 + 1))) ⟨ho.1, ho.2.1, fun m => by
      show sUp (sSt ρ) ((sCh ρ).getD c 0) 2 m < 4
      unfold sUp
      by_cases e : m = (sCh ρ).getD c 0
      · rw [if_pos e]; omega
      · rw [if_neg e]; exact ho.2.2.1 m, by
      show sUp (sSc ρ) 3 (sSc ρ 3 + 1) 0 < 100000
      rw [sUp_n _ _ (by decide)]; exact ho.2.2.2⟩ hc
  refine ⟨w, ?_, hr, fun a ha => ?_⟩
  · obtain ⟨⟨-, hl, -, -, h4, -⟩, hch, -⟩ := h
    unfold fX7_leave
    rw [hi.1, p_get (by rw [hi.2.2.2.2.2.1]; omega)]
    show zbindv (fX9_set (zrf i 9) (v (i + 1) c) 2 v) _ = _
    rw [hch c hc, hi.2.1, p_set (by rw [hi.2.2.2.2.2.2.1]; exact hm)]
    show zbindv (fX7_vacate i (nI c) (zup (zup v (i + 2) ((sCh ρ).getD c 0) 2) i 4 (zup v (i + 2) ((sCh ρ).getD c 0) 2 i 4 + 1))) _ = _
    rw [p_up_a v (i := i + 2) (a := i) _ _ (by omega), h4, nI_1]
    rw [show (2 : Int32) = nI 2 from rfl, hw]
    rfl
  · rw [hon a ha, p_up_a _ _ _ (by omega), p_up_a _ _ _ (by omega)]
