section
/-! CHAIR -/
def sChair (ρ : sR) (x : Nat) : Int32 := if x < (sCh ρ).length then nI ((sCh ρ).getD x 0) else -nI 1
theorem p_chairY {v : zV} {ρ : sR} (h : RC 37 v ρ) (hoC : okC ρ) {x : Nat} (hx : x ≤ 11) : fX9_chair 0 (nI x) v = some (0, sChair ρ x, v) := by
  have hl := hoC.1
  unfold fX9_chair sChair
  rw [show (11 : Int32) = nI 11 from rfl, show (0 : Int32) = nI 0 from rfl, (pa_within (by decide) (by decide) v).1 ⟨x, Nat.zero_le _, hx, rfl⟩, zbind_some, p_need.1, show (0 : Int32) = nI 0 from rfl, zbx_0, rf_0_7]
  by_cases q : x < (sCh ρ).length
  · rw [if_pos q, p_onChair r37.1 h hoC q, zbind_some]
  · rw [if_neg q, p_onChairN h hoC (Or.inr ((nI_leI (by omega) (by omega)).mpr (by omega))), zbind_some]
    rfl
theorem p_chairN {v : zV} {x : Int32} (hx : ¬ inB x 0 11) : fX9_chair 0 x v = some (2, 0, zup v 0 16 (v 0 16 + 1)) := by
  unfold fX9_chair
  rw [show (11 : Int32) = nI 11 from rfl, show (0 : Int32) = nI 0 from rfl, (pa_within (by decide) (by decide) v).2 hx, zbind_some, p_need.2, zbx_2]
theorem p_mChairY {v : zV} {ρ : sR} (h : MR 567 v ρ) (hoC : okC ρ) {x : Nat} (hx : x ≤ 11) : fX10_chair 116 (nI x) v = some (sChair ρ x, zup v 116 0 (nI 0)) := by
  have hl := hoC.1
  have hR : MR 567 (zup v 116 0 (nI 0)) ρ := MR_fr h (p_up_a _ _ _ (by decide))
  obtain ⟨⟨h61, -⟩, -, -, -, hch, -⟩ := hR
  have hb : (zup v 116 0 (nI 0)) 116 0 = nI 0 := p_up_s _ _ _ _
  have l567 := m567.1
  unfold fX10_chair fX10_chair_21 sChair
  rw [show (0 : Int32) = nI 0 from rfl, show (1 : Int32) = nI 1 from rfl, zlet_eq, pa_in]
  generalize zup v 116 0 (nI 0) = u at h61 hch hb
  rw [show (11 : Int32) = nI 11 from rfl, (pa_within (by decide) (by decide) u).1 ⟨x, Nat.zero_le _, hx, rfl⟩, zbind_some, if_neg (show ¬ nI 1 = nI 0 by decide), p_bad0 hb, zbind_some, if_pos rfl, rf_116_35, i_61, i_48, nI_add, zix_nI (by omega) (by omega), zix_nI (by omega) (by omega), nI_cl' (by omega), nI_cl' (by omega), h61]
  by_cases q : x < (sCh ρ).length
  · rw [if_neg (nI_ge q (by omega)), if_pos q, hch x q]
  · rw [if_pos ((nI_leI (by omega) (by omega)).mpr (by omega)), if_neg q]
theorem p_mChairN {v : zV} {x : Int32} (hx : ¬ inB x 0 11) : ∃ w, fX10_chair 116 x v = some (nI 0, w) ∧ rfM 1 1 v w := by
  refine ⟨_, ?_, rfM_up v 1 1⟩
  unfold fX10_chair fX10_chair_21
  rw [show (0 : Int32) = nI 0 from rfl, show (1 : Int32) = nI 1 from rfl, show (11 : Int32) = nI 11 from rfl, zlet_eq, pa_in, (pa_within (by decide) (by decide) _).2 hx, zbind_some, if_pos rfl, p_bad1 (p_up_s _ _ _ _) (by decide) (by decide) (by decide), zbind_some, if_neg (show ¬ nI 1 = nI 0 by decide)]
end
