section
/-! TAKEN -/
def sTaken (ρ : sR) (y : Nat) : Int32 := if 1 ≤ y ∧ y < sSc ρ 0 then oI (sTk ρ y) else -2
theorem sTk_lt {ρ : sR} {y m : Nat} (h : sTk ρ y = some m) : m < 16 ∧ sSn ρ m = nI y := by
  unfold sTk at h
  rw [List.find?_range_eq_some] at h
  obtain ⟨h1, h2, -⟩ := h
  exact ⟨List.mem_range.mp h2, eq_of_beq h1⟩
theorem p_takenL {v : zV} {α : sA} {l : sL} {ρ : sR} (h : CQ v α l ρ) (ho : OKs α l ρ) (h9 : α 0 1 = 0 ∨ sSc ρ 9 = 0) {y : Nat} (hy1 : 1 ≤ y) (hy2 : y < sSc ρ 0) : ∀ (d n j : Nat), j + d = α 0 1 → d < n → (∀ i, i < j → sSn ρ i ≠ nI y) → fX9_taken_21 n 0 (nI y) (nI j) v = some (oI (sTk ρ y), v) := by
  obtain ⟨ha, hl, hr, hY⟩ := ho
  have hM := ha.1.2.1
  have h31 : v 3 1 = nI (α 0 1) := h.1.1.1.2.1
  have hsn := h.2.2.2.2.2.1
  have hout := hr.2.2.2.2.1
  intro d
  induction d with
  | zero =>
    intro n j e hn hno
    obtain ⟨n, rfl⟩ : ∃ k, n = k + 1 := ⟨n - 1, by omega⟩
    obtain rfl : j = α 0 1 := by omega
    have e0 : sTk ρ y = none := by
      cases q : sTk ρ y with
      | none => rfl
      | some m =>
        obtain ⟨q1, q2⟩ := sTk_lt q
        by_cases q3 : m < α 0 1
        · exact absurd q2 (hno m q3)
        · rw [(hout m (by omega)).2, show (-1 : Int32) = -nI 1 from rfl, ng_eq2 (by omega) (by decide) (by decide)] at q2
          exact q2.elim
    rw [fX9_taken_21]
    dsimp only
    rw [rf_0_1, h31, if_pos (Int32.le_refl _), e0, oI_none]
    rfl
  | succ d ih =>
    intro n j e hn hno
    obtain ⟨n, rfl⟩ : ∃ k, n = k + 1 := ⟨n - 1, by omega⟩
    rw [fX9_taken_21]
    dsimp only
    rw [rf_0_1, rf_0_7, rf_37_11, h31, if_neg (nI_ge (by omega) (by omega)), p_get (by rw [ln_41]; omega), zbind_some, show v 41 j = sSn ρ j from hsn j (by omega) (h9.elim (fun z => by omega) id)]
    by_cases q : sSn ρ j = nI y
    · have e0 : sTk ρ y = some j := by
        unfold sTk
        rw [List.find?_range_eq_some]
        exact ⟨by rw [q]; exact beq_self_eq_true _, List.mem_range.mpr (by omega), fun i hi => by rw [Bool.not_eq_true']; exact beq_eq_false_iff_ne.mpr (hno i hi)⟩
      rw [if_pos q, e0, oI_some]
    · rw [if_neg q, i_1, nI_add]
      exact ih n (j + 1) (by omega) (by omega) (fun i hi => by
        by_cases q2 : i = j
        · rw [q2]; exact q
        · exact hno i (by omega))
theorem p_taken {v : zV} {α : sA} {l : sL} {ρ : sR} (h : CQ v α l ρ) (ho : OKs α l ρ) (h9 : α 0 1 = 0 ∨ sSc ρ 9 = 0) {y : Nat} (hy : y < 2 ^ 31) : fX9_taken 0 (nI y) v = some (sTaken ρ y, v) := by
  have h370 : v 37 0 = nI (sSc ρ 0) := h.2.1.1
  have hM := ho.1.1.2.1
  have h200 := ho.2.2.2
  unfold fX9_taken sTaken
  rw [rf_0_7, h370, i_1]
  simp (disch := omega) only [nI_lt']
  by_cases q1 : y < 1
  · rw [if_pos q1, if_neg (fun z => by omega)]
  · rw [if_neg q1]
    by_cases q2 : y < sSc ρ 0
    · rw [if_pos q2, if_pos ⟨by omega, q2⟩, i_0]
      exact p_takenL h ho h9 (by omega) q2 (α 0 1) zFU 0 (Nat.zero_add _) (by unfold zFU; omega) (fun i hi => absurd hi (Nat.not_lt_zero i))
    · rw [if_neg q2, if_neg (fun z => q2 z.2)]
theorem p_mTaken0 {v : zV} {α : sA} {l : sL} {ρ : sR} (h : MQ' v α l ρ) (ho : OKs α l ρ) {y : Nat} (hy : y < 2 ^ 31) : ∃ w, fX10_taken 116 (nI y) v = some (sTaken ρ y, w) ∧ frM (zup v 116 0 0) w := by
  have h200 := ho.2.2.2
  have l567 := m567.1
  refine ⟨zup v 116 0 0, ?_, frM_rf _⟩
  have hR : MR 567 (zup v 116 0 0) ρ := (MQ'_0 ho.1 ho.2.1 h 0).2.1
  obtain ⟨-, -, -, -, -, -, -, htk, -, -⟩ := hR
  unfold fX10_taken fX10_in sTaken
  rw [zlet_eq, rf_116_35]
  generalize zup v 116 0 0 = u at htk
  simp (disch := omega) only [i_1, i_200, i_104, nI_lt']
  by_cases q1 : y < 1
  · rw [if_pos q1, zbind_some, if_pos (show (0 : Int32) = 0 from rfl), if_neg (fun z => by omega)]
  · rw [if_neg q1]
    by_cases q2 : 200 < y
    · rw [if_pos q2, zbind_some, if_pos (show (0 : Int32) = 0 from rfl), if_neg (fun z => by omega)]
    · rw [if_neg q2, zbind_some, if_neg (show ¬ nI 1 = 0 by decide), nI_add, zix_nI (by omega) (by omega), nI_cl' (by omega), htk y (by omega) (by omega)]
      by_cases q3 : y < sSc ρ 0
      · rw [if_pos q3, if_pos ⟨by omega, q3⟩]
      · rw [if_neg q3, if_neg (fun z => q3 z.2)]
end
