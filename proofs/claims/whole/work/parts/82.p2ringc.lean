section
/-! RING, RINGED: both sides -/
theorem sEn_lt {α : sA} {ρ : sR} {a m : Nat} (h : sEn α ρ a = some m) : m < α 0 1 :=
  zit_inv (g := sEnS α ρ a) (fun _ e => ∀ m, e = some m → m < α 0 1) (α 0 1) (fun _ _ hj hI => sEnS_lt hj hI) (α 0 1) 0 none (Nat.zero_add _) (fun m hm => by cases hm) m h
theorem sEn_st {α : sA} {ρ : sR} {a m : Nat} (h : sEn α ρ a = some m) : sSt ρ m ≠ 3 ∧ m ≠ a := by
  refine zit_inv (g := sEnS α ρ a) (fun _ e => ∀ m, e = some m → sSt ρ m ≠ 3 ∧ m ≠ a) (α 0 1) (fun j e hj hI => ?_) (α 0 1) 0 none (Nat.zero_add _) (fun m hm => by cases hm) m h
  intro m hm
  unfold sEnS at hm
  split at hm
  · exact hI m hm
  next hno =>
    cases e with
    | none => cases hm; exact ⟨fun q => hno (Or.inr q), fun q => hno (Or.inl q)⟩
    | some x =>
      have hm' : (if sDf α a j ≤ sDf α a x then some x else some j) = some m := hm
      split at hm'
      · cases hm'; exact hI _ rfl
      · cases hm'; exact ⟨fun q => hno (Or.inr q), fun q => hno (Or.inl q)⟩
theorem sEn_some {α : sA} {ρ : sR} {a b : Nat} (hb : b < α 0 1) (hn : b ≠ a) (hs : sSt ρ b ≠ 3) : ∃ m, sEn α ρ a = some m := by
  have h := zit_inv (g := sEnS α ρ a) (fun j e => b < j → ∃ m, e = some m) (α 0 1) (fun j e hj hI => ?_) (α 0 1) 0 none (Nat.zero_add _) (fun q => absurd q (Nat.not_lt_zero _))
  · exact h hb
  · intro hbj
    unfold sEnS
    split
    next hy =>
      by_cases q : b = j
      · subst q
        rcases hy with q | q
        · exact absurd q hn
        · exact absurd q hs
      · exact hI (by omega)
    next =>
      cases e with
      | none => exact ⟨j, rfl⟩
      | some x =>
        show ∃ m, (if sDf α a j ≤ sDf α a x then some x else some j) = some m
        split
        · exact ⟨_, rfl⟩
        · exact ⟨_, rfl⟩
def sFoe (α : sA) (ρ : sR) (m : Nat) : Nat := (sEn α ρ m).getD m
theorem sFoe_lt {α : sA} {ρ : sR} : ∀ m, m < α 0 1 → sFoe α ρ m < α 0 1 := by
  intro m hm
  unfold sFoe
  cases q : sEn α ρ m with
  | none => exact hm
  | some b => exact sEn_lt q
/-- his enemy has an enemy -/
def sHasR (α : sA) (ρ : sR) (a : Nat) : Bool := match sEn α ρ a with
  | none => false
  | some b => (sEn α ρ b).isSome
theorem sHasR_at {α : sA} {ρ : sR} {a : Nat} (h : sHasR α ρ a = true) : ∃ b c, sEn α ρ a = some b ∧ sEn α ρ b = some c := by
  unfold sHasR at h
  cases q : sEn α ρ a with
  | none => rw [q] at h; cases h
  | some b =>
    rw [q] at h
    cases q2 : sEn α ρ b with
    | none =>
      have h' : (sEn α ρ b).isSome = true := h
      rw [q2] at h'
      cases h'
    | some c => exact ⟨b, c, rfl, q2⟩
theorem sFoe_at {α : sA} {ρ : sR} {a : Nat} (h : sHasR α ρ a = true) : ∀ k, sEn α ρ (zpw (sFoe α ρ) k a) = some (zpw (sFoe α ρ) (k + 1) a) ∧ sHasR α ρ (zpw (sFoe α ρ) k a) = true := by
  intro k
  induction k with
  | zero =>
    obtain ⟨b, c, h1, h2⟩ := sHasR_at h
    exact ⟨by show sEn α ρ a = some ((sEn α ρ a).getD a); rw [h1]; rfl, h⟩
  | succ k ih =>
    obtain ⟨b, c, h1, h2⟩ := sHasR_at ih.2
    have eb : zpw (sFoe α ρ) (k + 1) a = b := by
      have := ih.1
      rw [h1] at this
      cases this
      rfl
    have sb := sEn_st h1
    have sc := sEn_st h2
    obtain ⟨d, hd⟩ := sEn_some (a := c) (sEn_lt h1) (fun q => sc.2 q.symm) sb.1
    have e2 : zpw (sFoe α ρ) (k + 1 + 1) a = c := by
      show (sEn α ρ (zpw (sFoe α ρ) (k + 1) a)).getD _ = c
      rw [eb, h2]
      rfl
    rw [e2, eb]
    refine ⟨h2, ?_⟩
    unfold sHasR
    rw [h2]
    show (sEn α ρ c).isSome = true
    rw [hd]
    rfl
def sRing (α : sA) (ρ : sR) (a r : Nat) : Int32 := if sHasR α ρ a = true then (if r = 0 then nI (zcnt (fun k => (rgS (sFoe α ρ) a).testBit k) 16) else nI (rgLow (rgS (sFoe α ρ) a) 16 0)) else if r = 0 then nI 0 else -nI 1
theorem p_ring29 {v : zV} {r : Nat} (hr : r < 2) : fX3_ringFrom_29 96 (nI r) (-nI 1) v = some (if r = 0 then nI 0 else -nI 1, v) := by
  unfold fX3_ringFrom_29
  rw [if_pos (show -nI 1 = (-1 : Int32) from rfl)]
  simp (disch := omega) only [i_0, nI_eq']
  by_cases q : r = 0
  · rw [if_pos q, if_pos q]
  · rw [if_neg q, if_neg q]
    rfl
theorem p_ring60 {v : zV} {α : sA} {ρ : sR} (h : eqC v α ρ) (hb : bdC α ρ) {x p r : Nat} (hx : x < α 0 1) (hr : r < 2) (hh : sHasR α ρ x = true) (hp16 : p ≤ 16) (hp : isRG (sFoe α ρ) x p) : ∀ (d n i mn : Nat), i + d + 1 = p → d < n → (∃ k, k ≤ i ∧ mn = zpw (sFoe α ρ) k x) → (∀ k, k ≤ i → mn ≤ zpw (sFoe α ρ) k x) →
    ∃ L, (∃ k, k < p ∧ L = zpw (sFoe α ρ) k x) ∧ (∀ k, k < p → L ≤ zpw (sFoe α ρ) k x) ∧ fX3_ringFrom_60 n 96 (nI r) (nI x) (nI (i + 1)) (nI mn) (nI (zpw (sFoe α ρ) (i + 1) x)) (nI i) v = some (if r = 0 then nI p else nI L, v) := by
  intro d
  have hM := hb.1.2.1
  induction d with
  | zero =>
    intro n i mn e hn h1 h2
    obtain ⟨n, rfl⟩ : ∃ k, n = k + 1 := ⟨n - 1, by omega⟩
    obtain ⟨k, k1, k2⟩ := h1
    refine ⟨mn, ⟨k, by omega, k2⟩, fun k hk => h2 k (by omega), ?_⟩
    rw [fX3_ringFrom_60]
    dsimp only
    rw [show i + 1 = p by omega, hp.2.1]
    simp (disch := omega) only [i_16, i_0, nI_le', nI_eq']
    rw [if_neg (by omega : ¬ 16 ≤ i), if_pos trivial]
    by_cases q : r = 0
    · rw [if_pos q, if_pos q]
    · rw [if_neg q, if_neg q]
  | succ d ih =>
    intro n i mn e hn h1 h2
    obtain ⟨n, rfl⟩ : ∃ k, n = k + 1 := ⟨n - 1, by omega⟩
    have y1 : zpw (sFoe α ρ) (i + 1) x < α 0 1 := zpw_lt sFoe_lt hx _
    have y2 := hp.2.2 (i + 1) (by omega) (by omega)
    obtain ⟨k, k1, k2⟩ := h1
    have hmn : mn < α 0 1 := k2 ▸ zpw_lt sFoe_lt hx _
    obtain ⟨L, L1, L2, L3⟩ := ih n (i + 1) (min mn (zpw (sFoe α ρ) (i + 1) x)) (by omega) (by omega) (by
      by_cases q : mn ≤ zpw (sFoe α ρ) (i + 1) x
      · exact ⟨k, by omega, by rw [Nat.min_eq_left q, k2]⟩
      · exact ⟨i + 1, Nat.le_refl _, by rw [Nat.min_eq_right (by omega)]⟩) (fun k hk => by
      by_cases q : k = i + 1
      · rw [q]; exact Nat.min_le_right _ _
      · have := h2 k (by omega)
        have := Nat.min_le_left mn (zpw (sFoe α ρ) (i + 1) x)
        omega)
    refine ⟨L, L1, L2, ?_⟩
    rw [← L3, fX3_ringFrom_60]
    dsimp only
    rw [show (-1 : Int32) = -nI 1 from rfl, p_enemy h hb y1, (sFoe_at hh (i + 1)).1, zbind_some, oI_some, zmin_nI (by omega) (by omega)]
    simp (disch := omega) only [i_16, i_1, nI_le', nI_eq', ng_eq, nI_add, if_false]
    rw [if_neg (by omega : ¬ 16 ≤ i), if_neg y2]
theorem p_ring5 {v : zV} {α : sA} {ρ : sR} (h : eqC v α ρ) (hb : bdC α ρ) {a r : Nat} (ha : a < α 0 1) (hh : sHasR α ρ a = true) : ∀ (d n j : Nat), j + d = 16 → d < n → fX3_ringFrom_5 n 96 (nI r) (nI (zpw (sFoe α ρ) j a)) (nI j) v = fX3_ringFrom_29 96 (nI r) (nI (zpw (sFoe α ρ) 16 a)) v := by
  intro d
  have hM := hb.1.2.1
  induction d with
  | zero =>
    intro n j e hn
    obtain ⟨n, rfl⟩ : ∃ k, n = k + 1 := ⟨n - 1, by omega⟩
    obtain rfl : j = 16 := by omega
    rw [fX3_ringFrom_5]
    exact if_pos (Int32.le_refl _)
  | succ d ih =>
    intro n j e hn
    obtain ⟨n, rfl⟩ : ∃ k, n = k + 1 := ⟨n - 1, by omega⟩
    have y1 : zpw (sFoe α ρ) j a < α 0 1 := zpw_lt sFoe_lt ha _
    rw [← ih n (j + 1) (by omega) (by omega), fX3_ringFrom_5]
    dsimp only
    rw [show (-1 : Int32) = -nI 1 from rfl, p_enemy h hb y1, (sFoe_at hh j).1, zbind_some, oI_some]
    simp (disch := omega) only [i_16, i_1, nI_le', nI_eq', ng_eq, nI_add, if_false]
    rw [if_neg (by omega : ¬ 16 ≤ j)]
theorem p_ring {v : zV} {α : sA} {ρ : sR} (h : eqC v α ρ) (hb : bdC α ρ) {a r : Nat} (ha : a < α 0 1) (hr : r < 2) : fX3_ringFrom 96 (nI a) (nI r) v = some (sRing α ρ a r, v) := by
  have hM := hb.1.2.1
  unfold fX3_ringFrom
  rw [i_0]
  by_cases hh : sHasR α ρ a = true
  · have h5 := p_ring5 (r := r) h hb ha hh 16 zFU 0 rfl (by unfold zFU; omega)
    rw [show zpw (sFoe α ρ) 0 a = a from rfl] at h5
    rw [h5]
    have hx : zpw (sFoe α ρ) 16 a < α 0 1 := zpw_lt sFoe_lt ha _
    obtain ⟨p, hp16, hp⟩ := rg_at sFoe_lt hM ha
    have hh2 := (sFoe_at hh 16).2
    obtain ⟨L, L1, L2, L3⟩ := p_ring60 h hb hx hr hh2 hp16 hp (p - 1) zFU 0 (zpw (sFoe α ρ) 16 a) (by have := hp.1; omega) (by unfold zFU; omega) ⟨0, Nat.le_refl _, rfl⟩ (fun k hk => by rw [show k = 0 by omega]; exact Nat.le_refl _)
    unfold fX3_ringFrom_29
    rw [show (-1 : Int32) = -nI 1 from rfl, p_enemy h hb hx, show sEn α ρ (zpw (sFoe α ρ) 16 a) = some (zpw (sFoe α ρ) (0 + 1) (zpw (sFoe α ρ) 16 a)) from (sFoe_at hh2 0).1, zbind_some, oI_some]
    simp (disch := omega) only [ng_eq, if_false]
    rw [i_0, i_1, L3]
    unfold sRing
    rw [if_pos hh, rgS_cnt sFoe_lt hM ha hp16 hp, rgS_low sFoe_lt hM ha hp16 hp L1 L2]
  · have e0 : ∀ n, fX3_ringFrom_5 (n + 3) 96 (nI r) (nI a) (nI 0) v = some (if r = 0 then nI 0 else -nI 1, v) := by
      intro n
      rw [fX3_ringFrom_5]
      dsimp only
      rw [show (-1 : Int32) = -nI 1 from rfl, p_enemy h hb ha, zbind_some]
      simp (disch := omega) only [i_16, i_1, nI_le', nI_eq', ng_eq, nI_add, if_false]
      rw [if_neg (by omega : ¬ 16 ≤ 0), fX3_ringFrom_5]
      dsimp only
      cases q : sEn α ρ a with
      | none =>
        rw [oI_none, show (-1 : Int32) = -nI 1 from rfl, p_ring29 hr, if_pos rfl]
        exact ite_self _
      | some b =>
        have hb' := sEn_lt q
        rw [oI_some, show (-1 : Int32) = -nI 1 from rfl, p_enemy h hb hb', zbind_some]
        simp (disch := omega) only [i_16, i_1, nI_le', nI_eq', ng_eq, nI_add, if_false]
        rw [if_neg (by omega : ¬ 16 ≤ 0 + 1)]
        cases q2 : sEn α ρ b with
        | some c =>
          refine absurd ?_ hh
          unfold sHasR
          rw [q]
          show (sEn α ρ b).isSome = true
          rw [q2]
          rfl
        | none =>
          rw [fX3_ringFrom_5]
          dsimp only
          rw [oI_none, show (-1 : Int32) = -nI 1 from rfl, p_ring29 hr, if_pos rfl]
          exact ite_self _
    unfold sRing
    rw [if_neg hh, ← e0 (zFU - 3)]
    rfl
end
