section
/-! SUMS -/
theorem p_sumsY {v : zV} {ρ : sR} (h : RC 37 v ρ) {x : Nat} (hx : x ≤ 3) : fX9_sums 0 (nI x) v = some (0, nI (sSc ρ (x + 1)), v) := by
  obtain ⟨⟨-, -, h2, h3, h4, h5, -⟩, -⟩ := h
  unfold fX9_sums
  rw [show (3 : Int32) = nI 3 from rfl, show (0 : Int32) = nI 0 from rfl, (pa_within (by decide) (by decide) v).1 ⟨x, Nat.zero_le _, hx, rfl⟩, zbind_some, p_need.1, show (0 : Int32) = nI 0 from rfl, zbx_0, rf_0_7, h2, h3, h4, h5]
  simp (disch := omega) only [i_1, i_2, nI_eq']
  by_cases c0 : x = 0
  · rw [if_pos c0, c0]
  · rw [if_neg c0]
    by_cases c1 : x = 1
    · rw [if_pos c1, c1]
    · rw [if_neg c1]
      by_cases c2 : x = 2
      · rw [if_pos c2, c2]
      · rw [if_neg c2, show x = 3 by omega]
theorem p_sumsN {v : zV} {x : Int32} (hx : ¬ inB x 0 3) : fX9_sums 0 x v = some (2, 0, zup v 0 16 (v 0 16 + 1)) := by
  unfold fX9_sums
  rw [show (3 : Int32) = nI 3 from rfl, show (0 : Int32) = nI 0 from rfl, (pa_within (by decide) (by decide) v).2 hx, zbind_some, p_need.2, zbx_2]
theorem p_mSumsY {v : zV} {ρ : sR} (h : MR 567 v ρ) {x : Nat} (hx : x ≤ 3) : fX10_sums 116 (nI x) v = some (nI (sSc ρ (x + 1)), zup v 116 0 (nI 0)) := by
  have hR : MR 567 (zup v 116 0 (nI 0)) ρ := MR_fr h (p_up_a _ _ _ (by decide))
  obtain ⟨⟨-, -, -, h0, h1, h2, h3⟩, -⟩ := hR
  have hb : (zup v 116 0 (nI 0)) 116 0 = nI 0 := p_up_s _ _ _ _
  have l567 := m567.1
  unfold fX10_sums fX10_sums_20
  rw [show (0 : Int32) = nI 0 from rfl, show (1 : Int32) = nI 1 from rfl, zlet_eq, pa_in]
  generalize zup v 116 0 (nI 0) = u at h0 h1 h2 h3 hb
  rw [show (3 : Int32) = nI 3 from rfl, (pa_within (by decide) (by decide) u).1 ⟨x, Nat.zero_le _, hx, rfl⟩, zbind_some, if_neg (show ¬ nI 1 = nI 0 by decide), p_bad0 hb, zbind_some, if_pos rfl, rf_116_35, i_100, nI_add, zix_nI (by omega) (by omega), nI_cl' (by omega)]
  by_cases c0 : x = 0
  · rw [c0, h0]
  · by_cases c1 : x = 1
    · rw [c1, h1]
    · by_cases c2 : x = 2
      · rw [c2, h2]
      · rw [show x = 3 by omega, h3]
theorem p_mSumsN {v : zV} {x : Int32} (hx : ¬ inB x 0 3) : ∃ w, fX10_sums 116 x v = some (nI 0, w) ∧ rfM 1 1 v w := by
  refine ⟨_, ?_, rfM_up v 1 1⟩
  unfold fX10_sums fX10_sums_20
  rw [show (0 : Int32) = nI 0 from rfl, show (1 : Int32) = nI 1 from rfl, show (3 : Int32) = nI 3 from rfl, zlet_eq, pa_in, (pa_within (by decide) (by decide) _).2 hx, zbind_some, if_pos rfl, p_bad1 (p_up_s _ _ _ _) (by decide) (by decide) (by decide), zbind_some, if_neg (show ¬ nI 1 = nI 0 by decide)]
end
