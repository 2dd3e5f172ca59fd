section
/-! ARGUMENTS -/
theorem ia_of {x : Int32} (h : ¬ x < 0) : ∃ a, a < 2 ^ 31 ∧ x = nI a := by
  have h1 : ¬ x.toInt < 0 := fun q => h (Int32.lt_iff_toInt_lt.mpr q)
  have h2 := Int32.toInt_lt x
  refine ⟨x.toInt.toNat, by omega, ?_⟩
  apply Int32.toInt_inj.mp
  rw [nI_toInt (by omega)]
  omega
theorem ia_neg {x : Int32} (h : x < 0) : ∀ a, a < 2 ^ 31 → x ≠ nI a := fun a ha e => by
  rw [e, i_0, nI_lt' ha (by decide)] at h
  omega
/-- from a to b -/
def inB (x : Int32) (a b : Nat) : Prop := ∃ k, a ≤ k ∧ k ≤ b ∧ x = nI k
theorem pa_within {x : Int32} {a b : Nat} (ha : a < 2 ^ 31) (hb : b < 2 ^ 31) (v : zV) : (inB x a b → fX9_within x (nI a) (nI b) v = some (nI 1, v)) ∧ (¬ inB x a b → fX9_within x (nI a) (nI b) v = some (nI 0, v)) := by
  unfold fX9_within
  by_cases h0 : x < 0
  · refine ⟨fun ⟨k, _, k2, k3⟩ => absurd k3 (ia_neg h0 k (by omega)), fun _ => ?_⟩
    have : x < nI a := by
      rw [Int32.lt_iff_toInt_lt] at h0 ⊢
      rw [nI_toInt ha]
      have e0 : (0 : Int32).toInt = 0 := by decide
      omega
    rw [if_pos this, i_0]
  · obtain ⟨k, hk, rfl⟩ := ia_of h0
    have e : inB (nI k) a b ↔ a ≤ k ∧ k ≤ b := ⟨fun ⟨j, j1, j2, j3⟩ => by
      have := (nI_eq' hk (by omega)).mp j3
      omega, fun h => ⟨k, h.1, h.2, rfl⟩⟩
    rw [e]
    simp (disch := omega) only [nI_lt']
    by_cases q1 : k < a
    · refine ⟨fun h => by omega, fun _ => by rw [if_pos q1, i_0]⟩
    · by_cases q2 : b < k
      · refine ⟨fun h => by omega, fun _ => by rw [if_neg q1, if_pos q2, i_0]⟩
      · refine ⟨fun _ => by rw [if_neg q1, if_neg q2, i_1], fun h => absurd ⟨by omega, by omega⟩ h⟩
theorem pa_in (x a b : Int32) (v : zV) : fX10_in x a b v = fX9_within x a b v := rfl
/-- one of so many -/
def inN (x : Int32) (n : Nat) : Prop := ∃ k, k < n ∧ x = nI k
theorem pa_withinN {x : Int32} {n : Nat} (hn : n < 2 ^ 31) (v : zV) : (inN x n → fX9_within x (nI 0) (nI n - nI 1) v = some (nI 1, v)) ∧ (¬ inN x n → fX9_within x (nI 0) (nI n - nI 1) v = some (nI 0, v)) := by
  by_cases h : n = 0
  · subst h
    refine ⟨fun ⟨k, hk, _⟩ => absurd hk (Nat.not_lt_zero k), fun _ => ?_⟩
    unfold fX9_within
    rw [show nI 0 - nI 1 = -nI 1 by decide]
    by_cases h0 : x < nI 0
    · rw [if_pos h0, i_0]
    · obtain ⟨k, hk, rfl⟩ := ia_of h0
      rw [if_neg h0, if_pos (by rw [ng_lt hk (by decide) (by decide)]; trivial), i_0]
  · have e : inN x n ↔ inB x 0 (n - 1) := ⟨fun ⟨k, k1, k2⟩ => ⟨k, Nat.zero_le _, by omega, k2⟩, fun ⟨k, _, k1, k2⟩ => ⟨k, by omega, k2⟩⟩
    rw [e, nI_sub' (by omega)]
    exact pa_within (by decide) (by omega) v
/-- the class: whether a man is told of -/
theorem p_needMan {v : zV} {α : sA} {x : Int32} (h1 : v 3 1 = nI (α 0 1)) (hM : α 0 1 ≤ 16) : (inN x (α 0 1) → fX9_needMan 0 x v = some (0, 0, v)) ∧ (¬ inN x (α 0 1) → fX9_needMan 0 x v = some (1, 0, zup v 0 15 (v 0 15 + 1))) := by
  have h := pa_withinN (x := x) (n := α 0 1) (by omega) v
  unfold fX9_needMan
  rw [rf_0_1, h1, show (1 : Int32) = nI 1 from rfl, show (0 : Int32) = nI 0 from rfl]
  refine ⟨fun q => by rw [h.1 q, zbind_some, if_neg (show ¬ nI 1 = nI 0 by decide)], fun q => by rw [h.2 q, zbind_some, if_pos rfl, zlet_eq]⟩
theorem p_needQ {v : zV} {α : sA} {x : Int32} (h1 : v 3 0 = nI (α 0 0)) (hM : α 0 0 ≤ 6) : (inN x (α 0 0) → fX9_needQuestion 0 x v = some (0, 0, v)) ∧ (¬ inN x (α 0 0) → fX9_needQuestion 0 x v = some (1, 0, zup v 0 15 (v 0 15 + 1))) := by
  have h := pa_withinN (x := x) (n := α 0 0) (by omega) v
  unfold fX9_needQuestion
  rw [rf_0_1, h1, show (1 : Int32) = nI 1 from rfl, show (0 : Int32) = nI 0 from rfl]
  refine ⟨fun q => by rw [h.1 q, zbind_some, if_neg (show ¬ nI 1 = nI 0 by decide)], fun q => by rw [h.2 q, zbind_some, if_pos rfl, zlet_eq]⟩
theorem p_need {v : zV} : fX9_need 0 (nI 1) v = some (0, 0, v) ∧ fX9_need 0 (nI 0) v = some (2, 0, zup v 0 16 (v 0 16 + 1)) := by
  unfold fX9_need
  refine ⟨by rw [if_neg (show ¬ nI 1 = 0 by decide)], by rw [if_pos (show nI 0 = 0 from rfl), zlet_eq]⟩
/-- the reference: whether a man is told of -/
theorem p_mIsMan {v : zV} {α : sA} {x : Int32} (h1 : v 120 1 = nI (α 0 1)) (hM : α 0 1 ≤ 16) : (inN x (α 0 1) → fX10_isMan 116 x v = some (nI 1, v)) ∧ (¬ inN x (α 0 1) → fX10_isMan 116 x v = some (nI 0, v)) := by
  have h := pa_withinN (x := x) (n := α 0 1) (by omega) v
  unfold fX10_isMan
  rw [rf_116_12, ln_120, pa_in, show (1 : Int32) = nI 1 from rfl, show (0 : Int32) = nI 0 from rfl]
  simp (disch := omega) only [zix_nI, nI_cl', h1]
  refine ⟨fun q => by rw [h.1 q, zbind_some]; rfl, fun q => by rw [h.2 q, zbind_some]; rfl⟩
theorem p_mIsQ {v : zV} {α : sA} {x : Int32} (h1 : v 120 0 = nI (α 0 0)) (hM : α 0 0 ≤ 6) : (inN x (α 0 0) → fX10_isQuestion 116 x v = some (nI 1, v)) ∧ (¬ inN x (α 0 0) → fX10_isQuestion 116 x v = some (nI 0, v)) := by
  have h := pa_withinN (x := x) (n := α 0 0) (by omega) v
  unfold fX10_isQuestion
  rw [rf_116_12, ln_120, pa_in, show (1 : Int32) = nI 1 from rfl, show (0 : Int32) = nI 0 from rfl]
  simp (disch := omega) only [zix_nI, nI_cl', h1]
  refine ⟨fun q => by rw [h.1 q, zbind_some]; rfl, fun q => by rw [h.2 q, zbind_some]; rfl⟩
/-- the reference's refusals: none so far and none now; one now; one before -/
theorem p_bad0 {v : zV} (h : v 116 0 = nI 0) (y z : Int32) : fX10_bad 116 (nI 0) y z v = some (nI 0, v) := by
  unfold fX10_bad
  rw [if_pos (show nI 0 = 0 from rfl), if_pos (show v 116 0 = 0 from h), i_0]
theorem p_bad1 {v : zV} (h : v 116 0 = nI 0) {y z : Nat} (hy : 1 ≤ y) (hy2 : y < 10) (hz : z < 2) : fX10_bad 116 (nI 1) (nI y) (nI z) v = some (nI 1, zup (zup v 116 0 (nI y)) 118 z (v 118 z + nI 1)) := by
  have e : ¬ nI y = nI 0 := by rw [nI_eq' (by omega) (by decide)]; omega
  unfold fX10_bad
  rw [if_neg (show ¬ nI 1 = 0 by decide), if_pos (show v 116 0 = 0 from h), rf_116_10, ln_118]
  simp (disch := omega) only [i_0, i_1, zlet_eq, zix_nI, nI_cl']
  rw [p_up_a v _ _ (show (118 : Nat) ≠ 116 by decide), p_up_a (zup v 116 0 (nI y)) _ _ (show (116 : Nat) ≠ 118 by decide), p_up_s, if_neg e]
theorem p_bad2 {v : zV} (h : ¬ v 116 0 = nI 0) (b y z : Int32) : fX10_bad 116 b y z v = some (nI 1, v) := by
  have h' : ¬ v 116 0 = 0 := h
  unfold fX10_bad
  rw [if_neg h', if_neg h', i_1]
  exact ite_self _
end
