section
/-! PRAISES: the class -/
theorem rfa_59 : ∀ j, j < 4 → zrf 59 j = 63 + 6 * j := by decide +kernel
theorem rowAt_59 : ∀ j, j < 4 → rowAt (63 + 6 * j) := by
  intro j hj
  have h : ∀ j, j < 4 → 63 + 6 * j ∈ rowCells := by decide
  exact ⟨isRow_all _ (h j hj), by omega, by omega⟩
/-- the choices ahead of depth k: how many praise, and the way -/
def pPW (v : zV) : Nat → Nat → Nat → Prop
  | 0, p, w => p = 0 ∧ w = 0
  | k + 1, p, w => ∃ c p0 w0, v 62 k = nI c ∧ c ≤ 16 ∧ pPW v k p0 w0 ∧ p = p0 + (if c = 0 then 0 else 1) ∧ w = 100 * w0 + c
theorem pPW_fr {v u : zV} : ∀ (k p w : Nat), pPW v k p w → (∀ j, j < k → u 62 j = v 62 j) → pPW u k p w := by
  intro k
  induction k with
  | zero => intro p w h _; exact h
  | succ k ih =>
    intro p w ⟨c, p0, w0, h1, h2, h3, h4, h5⟩ e
    exact ⟨c, p0, w0, by rw [e k (by omega)]; exact h1, h2, ih _ _ h3 (fun j hj => e j (by omega)), h4, h5⟩
theorem pPW_le {v : zV} : ∀ (k p w : Nat), pPW v k p w → p ≤ k := by
  intro k
  induction k with
  | zero => intro p w h; have := h.1; omega
  | succ k ih =>
    intro p w ⟨c, p0, w0, h1, h2, h3, h4, h5⟩
    have := ih _ _ h3
    rw [h4]
    split <;> omega
theorem p_praisedL {v : zV} {k : Nat} (hk : k < 3) : ∀ (j p w n : Nat), j ≤ k + 1 → pPW v j p w → j ≤ n → fX4_praisedTill_4 n 52 (nI k) (nI 0) (nI 0) v = fX4_praisedTill_4 (n - j) 52 (nI k) (nI p) (nI j) v := by
  intro j
  induction j with
  | zero => intro p w n _ h _; rw [h.1]; rfl
  | succ j ih =>
    intro p w n hj ⟨c, p0, w0, h1, h2, h3, h4, h5⟩ hn
    rw [ih p0 w0 n (by omega) h3 (by omega)]
    obtain ⟨n1, hn1⟩ : ∃ n1, n - j = n1 + 1 := ⟨n - j - 1, by omega⟩
    rw [hn1, show n - (j + 1) = n1 by omega, fX4_praisedTill_4]
    dsimp only
    rw [rf_52_7, p_get (by rw [ln_62]; omega), zbind_some, h1]
    simp (disch := omega) only [i_0, i_1, nI_lt', nI_le', nI_add]
    rw [if_neg (by omega : ¬ k < j), h4]
    by_cases c0 : c = 0
    · rw [if_pos (by omega : c ≤ 0), if_pos c0]
    · rw [if_neg (by omega : ¬ c ≤ 0), if_neg c0]
theorem p_praised {v : zV} {k p w : Nat} (hk : k < 3) (h : pPW v (k + 1) p w) : fX4_praisedTill 52 (nI k) v = some (nI p, v) := by
  unfold fX4_praisedTill
  rw [i_0, p_praisedL hk (k + 1) p w zFU (Nat.le_refl _) h (by unfold zFU; omega)]
  obtain ⟨n1, hn1⟩ : ∃ n1, zFU - (k + 1) = n1 + 1 := ⟨zFU - (k + 1) - 1, by unfold zFU; omega⟩
  rw [hn1, fX4_praisedTill_4]
  dsimp only
  rw [if_pos ((nI_ltI (by omega) (by omega)).mpr (by omega))]
theorem p_wayL {v : zV} {k Y : Nat} (hk : k < 3) (hY : k < Y) (hY3 : Y ≤ 3) : ∀ (j p w n : Nat), j ≤ k + 1 → pPW v j p w → j ≤ n → fX4_wayTill_5 n 52 (nI k) (nI Y) (nI 0) (nI 0) v = fX4_wayTill_5 (n - j) 52 (nI k) (nI Y) (nI w) (nI j) v := by
  intro j
  induction j with
  | zero => intro p w n _ h _; rw [h.2]; rfl
  | succ j ih =>
    intro p w n hj ⟨c, p0, w0, h1, h2, h3, h4, h5⟩ hn
    rw [ih p0 w0 n (by omega) h3 (by omega)]
    obtain ⟨n1, hn1⟩ : ∃ n1, n - j = n1 + 1 := ⟨n - j - 1, by omega⟩
    rw [hn1, show n - (j + 1) = n1 by omega, fX4_wayTill_5]
    dsimp only
    rw [rf_52_7, p_get (by rw [ln_62]; omega), zbind_some, h1]
    simp (disch := omega) only [i_100, i_1, nI_lt', nI_le', nI_add, pk_mul]
    rw [if_neg (by omega : ¬ Y ≤ j), if_neg (by omega : ¬ k < j), h5, Nat.mul_comm w0]
theorem p_wayR {v : zV} {k Y : Nat} (hY3 : Y ≤ 3) (hk : k < 3) : ∀ (d n j w : Nat), j + d = Y → k < j → d < n → fX4_wayTill_5 n 52 (nI k) (nI Y) (nI w) (nI j) v = some (nI (w * 100 ^ d), v) := by
  intro d
  induction d with
  | zero =>
    intro n j w e hj hn
    obtain ⟨n, rfl⟩ : ∃ k, n = k + 1 := ⟨n - 1, by omega⟩
    obtain rfl : j = Y := by omega
    rw [fX4_wayTill_5]
    dsimp only
    rw [if_pos (Int32.le_refl _), Nat.pow_zero, Nat.mul_one]
  | succ d ih =>
    intro n j w e hj hn
    obtain ⟨n, rfl⟩ : ∃ k, n = k + 1 := ⟨n - 1, by omega⟩
    rw [fX4_wayTill_5]
    dsimp only
    simp (disch := omega) only [i_100, i_1, i_0, nI_lt', nI_le', nI_add, pk_mul]
    rw [if_neg (by omega : ¬ Y ≤ j), if_pos hj, Nat.add_zero, ih n (j + 1) (w * 100) (by omega) (by omega) (by omega), Nat.pow_succ, Nat.mul_assoc, Nat.mul_comm 100]
theorem p_way {v : zV} {k Y p w : Nat} (hY3 : Y ≤ 3) (hk : k < Y) (h : pPW v (k + 1) p w) : fX4_wayTill 52 (nI k) (nI Y) v = some (nI (w * 100 ^ (Y - (k + 1))), v) := by
  unfold fX4_wayTill
  rw [i_0, p_wayL (by omega) hk hY3 (k + 1) p w zFU (Nat.le_refl _) h (by unfold zFU; omega)]
  exact p_wayR hY3 (by omega) (Y - (k + 1)) _ (k + 1) w (by omega) (by omega) (by unfold zFU; omega)
/-- the best so far -/
def sFw (Y : Nat) (st : Option (Nat × Nat)) : Nat := match st with
  | none => Y + 1
  | some z => z.1
def sWy (st : Option (Nat × Nat)) : Int32 := match st with
  | none => -nI 1
  | some z => nI z.2
def pST (Y : Nat) (v : zV) (st : Option (Nat × Nat)) : Prop := v 52 8 = nI (sFw Y st) ∧ v 52 9 = sWy st ∧ ∀ z, st = some z → z.1 ≤ Y
theorem sFw_le {Y : Nat} {st : Option (Nat × Nat)} (h : ∀ z, st = some z → z.1 ≤ Y) : sFw Y st ≤ Y + 1 := by
  cases st with
  | none => exact Nat.le_refl _
  | some z => have := h z rfl; show z.1 ≤ Y + 1; omega
theorem sFw_lt {Y p : Nat} {st : Option (Nat × Nat)} (hp : p ≤ Y) : (p < sFw Y st) = (sLess st p = true) := by
  cases st with
  | none => exact propext ⟨fun _ => rfl, fun _ => by show p < Y + 1; omega⟩
  | some z => exact propext ⟨fun q => decide_eq_true q, fun q => of_decide_eq_true q⟩
theorem p_worth {α : sA} (ha : okA α) {ρ : sR} (ho : okR α ρ) {v : zV} {Y k c p w : Nat} {st : Option (Nat × Nat)} (hY : Y ≤ 3) (hk : k < Y) (hc : c ≤ α 0 1) (hR : RC (63 + 6 * k) v ρ) (hP : pPW v (k + 1) p w) (h62 : v 62 k = nI c) (hS : pST Y v st) :
    fX4_isWorthTrying 52 (nI k) v = some (if sLess st p = true ∧ sOkc ρ c = true then nI 1 else nI 0, v) := by
  have hM := ha.1.2.1
  have hp := pPW_le _ _ _ hP
  have hf := sFw_le hS.2.2
  have hoC := okW_C ha (ok_13 ha) ho
  unfold fX4_isWorthTrying
  rw [rf_52_7, rf_52_4, ln_59, p_get (by rw [ln_62]; omega), zbind_some, p_praised (by omega) hP, zbind_some, hS.1, h62]
  simp (disch := omega) only [i_0, i_1, ofN_nI, nI_lt', nI_le', nI_eq', zix_nI, nI_cl', rfa_59]
  rw [if_neg (Nat.not_lt_zero k), if_neg (by omega : ¬ 4 ≤ k)]
  have e9 := sFw_lt (st := st) (by omega : p ≤ Y)
  by_cases h1 : sLess st p = true
  · rw [if_pos (e9.mpr h1)]
    by_cases h2 : c = 0
    · rw [if_pos h2, if_pos ⟨h1, by unfold sOkc; rw [decide_eq_true h2]; rfl⟩]
    · rw [if_neg h2, nI_sub' (by omega), p_isWaiting (rowAt_59 k (by omega)).1 hR hoC (by omega), zbind_some]
      by_cases h3 : sSt ρ (c - 1) = 0
      · rw [if_pos h3, if_neg (show ¬ (1 : Int32) = nI 0 by decide), if_pos ⟨h1, by unfold sOkc; rw [decide_eq_true h3]; exact Bool.or_true _⟩]
      · rw [if_neg h3, if_pos (show (0 : Int32) = nI 0 from rfl), if_neg (fun q => by
          have := q.2
          unfold sOkc at this
          rw [decide_eq_false h2, decide_eq_false h3] at this
          cases this)]
  · rw [if_neg (fun q => h1 (e9.mp q)), if_neg (fun q => h1 q.1)]
/-- what a level of the search keeps -/
def onlyS (k : Nat) (v w : zV) : Prop := (∀ a, a < 63 + 6 * (k + 1) → a ≠ 25 → a ≠ 26 → a ≠ 51 → a ≠ 52 → a ≠ 62 → w a = v a) ∧ (∀ j, j < k → w 62 j = v 62 j) ∧ frC v w
theorem onlyS_tr {k : Nat} {v w u : zV} (h1 : onlyS k v w) (h2 : onlyS k w u) : onlyS k v u := ⟨fun a a1 a2 a3 a4 a5 a6 => (h2.1 a a1 a2 a3 a4 a5 a6).trans (h1.1 a a1 a2 a3 a4 a5 a6), fun j hj => (h2.2.1 j hj).trans (h1.2.1 j hj), frC_tr h1.2.2 h2.2.2⟩
theorem onlyS_52 (k : Nat) (v : zV) (j : Nat) (x : Int32) : onlyS k v (zup v 52 j x) := ⟨fun a _ _ _ _ h _ => p_up_a v j x h, fun i _ => by rw [p_up_a v j x (by decide)], frC_up j x (by decide) (by decide)⟩
theorem onlyS_62 {k j : Nat} (hj : k ≤ j) (v : zV) (x : Int32) : onlyS k v (zup v 62 j x) := ⟨fun a _ _ _ _ _ h => p_up_a v j x h, fun i hi => by rw [p_up_n v x (Or.inr (by omega))], frC_up j x (by decide) (by decide)⟩
theorem onlyS_C {k : Nat} (hk : k < 3) {v w : zV} (h : onlyC (63 + 6 * (k + 1)) v w) : onlyS k v w := ⟨fun a h1 h2 h3 h4 _ _ => h a (by omega) h2 h3 h4, fun j _ => by rw [h 62 (by omega) (by decide) (by decide) (by decide)], frC_C (by omega) (by omega) h⟩
/-- copy, praise, tell, settle -/
theorem p_tryP {α : sA} {l : sL} (ha : okA α) (hl : okL l) {ρ : sR} (ho : okR α ρ) {v : zV} {Y k c m : Nat} (x : Int32) (hY : Y ≤ 3) (hk : k < Y) (hc : c ≤ α 0 1) (hE : CE v α l) (hR : RC (63 + 6 * k) v ρ) (h62 : v 62 k = nI c) :
    ∃ u, fX4_tryChoice 52 (nI k) (nI m) (nI Y) x v = fX4_tryChoice_66 52 (nI k) (nI m) (nI Y) (63 + 6 * (k + 1)) u ∧ RC (63 + 6 * (k + 1)) u (sAddO x c ρ) ∧ onlyC (63 + 6 * (k + 1)) v u := by
  have hM := ha.1.2.1
  have hoC := okW_C ha (ok_13 ha) ho
  have r1 := rowAt_59 (k + 1) (by omega)
  obtain ⟨w, hw, hr, hon⟩ := p_rowCopy (i := 63 + 6 * (k + 1)) (j := 63 + 6 * k) r1.1 (rowAt_59 k (by omega)).1 (by omega) hR hoC.1
  have e62 : w 62 k = nI c := by rw [hon 62 (by omega)]; exact h62
  unfold fX4_tryChoice sAddO
  rw [rf_52_7, rf_52_4, ln_59]
  simp (disch := omega) only [i_0, i_1, ofN_nI, nI_lt', nI_le', nI_add, zix_nI, nI_cl', rfa_59]
  rw [if_neg (Nat.not_lt_zero k), if_pos (by omega : k + 1 < 4), hw, zbindv_some, p_get (by rw [ln_62]; omega), zbind_some, e62]
  simp (disch := omega) only [nI_le']
  by_cases h2 : c = 0
  · rw [if_pos (by omega : c ≤ 0), if_pos h2]
    exact ⟨w, rfl, hr, onlyR_C hon⟩
  · rw [if_neg (by omega : ¬ c ≤ 0), if_neg h2, p_get (by rw [ln_62]; omega), zbind_some, e62, nI_sub' (by omega)]
    obtain ⟨u, hu, hur, huon⟩ := p_praiseMore r1.1 hr (m := c - 1) (by omega) x
    exact ⟨u, by rw [hu, zbindv_some], hur, onlyR_C (onlyR_tr hon huon)⟩
theorem p_try {α : sA} {l : sL} (ha : okA α) (hl : okL l) {ρ : sR} (ho : okR α ρ) {v : zV} {Y k c m p w : Nat} {st : Option (Nat × Nat)} (x : Int32) (hY : Y ≤ 3) (hk : k < Y) (hc : c ≤ α 0 1) (hm : m < 16) (hE : CE v α l) (hR : RC (63 + 6 * k) v ρ) (hP : pPW v (k + 1) p w) (h62 : v 62 k = nI c) (hS : pST Y v st) :
    ∃ u, onlyS k v u ∧ u 62 k = nI c ∧ ((sStp α l x c ρ).1 = some m → fX4_tryChoice 52 (nI k) (nI m) (nI Y) x v = some (nI k, u) ∧ pST Y u (some (p, w * 100 ^ (Y - (k + 1))))) ∧
      (¬ (sStp α l x c ρ).1 = some m → Y ≤ k + 1 → fX4_tryChoice 52 (nI k) (nI m) (nI Y) x v = some (nI k, u) ∧ pST Y u st) ∧
      (¬ (sStp α l x c ρ).1 = some m → k + 1 < Y → fX4_tryChoice 52 (nI k) (nI m) (nI Y) x v = some (nI (k + 1), u) ∧ pST Y u st ∧ u 62 (k + 1) = -nI 1 ∧ RC (63 + 6 * (k + 1)) u (sStp α l x c ρ).2) := by
  have hM := ha.1.2.1
  have r1 := rowAt_59 (k + 1) (by omega)
  have hp := pPW_le _ _ _ hP
  obtain ⟨w1, hw1, hr1, hon1⟩ := p_tryP (m := m) ha hl ho x hY hk hc hE hR h62
  have ho1 : okR α (sAddO x c ρ) := by
    unfold sAddO
    split
    · exact ho
    · exact ho
  have hE1 := CE_C r1 hE hon1
  obtain ⟨w2, hw2, hr2, hon2⟩ := p_tell r1 ha (ok_13 ha) hE1.1 hr1 ho1
  obtain ⟨w3, hw3, hr3, hon3⟩ := p_settle r1 ha hl (CE_C r1 hE1 (onlyR_C hon2)) hr2 (sTell_ok ha ho1).1
  have hon : onlyC (63 + 6 * (k + 1)) v w3 := onlyC_tr hon1 (onlyC_tr (onlyR_C hon2) hon3)
  have e62 : w3 62 = v 62 := hon 62 (by omega) (by decide) (by decide) (by decide)
  have e52 : w3 52 = v 52 := hon 52 (by omega) (by decide) (by decide) (by decide)
  have hS3 : pST Y w3 st := ⟨by rw [e52]; exact hS.1, by rw [e52]; exact hS.2.1, hS.2.2⟩
  have hP3 : pPW w3 (k + 1) p w := pPW_fr _ _ _ hP (fun j _ => by rw [e62])
  have hlt : ∀ q, (sStp α l x c ρ).1 = some q → q < 2 ^ 31 := fun q hq => by
    have := (sChoose_ok (α := α) (ρ := sTell α (sAddO x c ρ)) (sc := sScore α l (sTell α (sAddO x c ρ))) hq).1
    omega
  have eq1 : (oI (sStp α l x c ρ).1 = nI m) = ((sStp α l x c ρ).1 = some m) := by
    rw [← oI_some, oI_inj hlt (fun q hq => by cases hq; omega)]
  have h66 : fX4_tryChoice 52 (nI k) (nI m) (nI Y) x v = (if oI (sStp α l x c ρ).1 = nI m then
    zbind (fX4_praisedTill 52 (nI k) w3) fun r_6 v_5 =>
    zlet (zup v_5 52 8 r_6) fun v_7 =>
    zbind (fX4_wayTill 52 (nI k) (nI Y) v_7) fun r_9 v_8 =>
    zlet (zup v_8 52 9 r_9) fun v_10 =>
    some (nI k, v_10)
  else
    if (nI k + (1 : Int32)) < nI Y then
      zbindv (fX9_set 62 (nI k + (1 : Int32)) (-1 : Int32) w3) fun v_4 =>
      some (nI k + (1 : Int32), v_4)
    else
      some (nI k, w3)) := by
    rw [hw1]
    unfold fX4_tryChoice_66
    rw [rf_52_1, hw2, zbindv_some, hw3, zbind_some, rf_52_7]
    rfl
  rw [h66]
  by_cases hh : (sStp α l x c ρ).1 = some m
  · have hP4 : pPW (zup w3 52 8 (nI p)) (k + 1) p w := pPW_fr _ _ _ hP3 (fun j _ => by rw [p_up_a w3 _ _ (by decide)])
    refine ⟨zup (zup w3 52 8 (nI p)) 52 9 (nI (w * 100 ^ (Y - (k + 1)))), onlyS_tr (onlyS_C (by omega) hon) (onlyS_tr (onlyS_52 _ _ _ _) (onlyS_52 _ _ _ _)), ?_, fun _ => ⟨?_, ?_, ?_, ?_⟩, fun q => absurd hh q, fun q => absurd hh q⟩
    · rw [p_up_a _ _ _ (by decide), p_up_a _ _ _ (by decide), e62]; exact h62
    · rw [if_pos (eq1 ▸ hh), p_praised (by omega) hP3, zbind_some, zlet_eq, p_way hY hk hP4, zbind_some, zlet_eq]
    · rw [p_up_n _ _ (Or.inr (by decide)), p_up_s]; rfl
    · rw [p_up_s]; rfl
    · intro z hz
      cases hz
      show p ≤ Y
      omega
  · rw [if_neg (by rw [eq1]; exact hh)]
    by_cases hd : k + 1 < Y
    · refine ⟨zup w3 62 (k + 1) (-nI 1), onlyS_tr (onlyS_C (by omega) hon) (onlyS_62 (by omega) _ _), ?_, fun q => absurd q hh, fun _ q => absurd hd (by omega), fun _ _ => ⟨?_, ⟨?_, ?_, hS3.2.2⟩, ?_, ?_⟩⟩
      · rw [p_up_n _ _ (Or.inr (by omega)), e62]; exact h62
      · rw [i_1, nI_add, if_pos ((nI_ltI (by omega) (by omega)).mpr hd), p_set (by rw [ln_62]; omega), zbindv_some]
      · rw [p_up_a _ _ _ (by decide)]; exact hS3.1
      · rw [p_up_a _ _ _ (by decide)]; exact hS3.2.1
      · exact p_up_s _ _ _ _
      · exact RC_fr hr3 (fun a g1 _ => p_up_a _ _ _ (by omega))
    · refine ⟨w3, onlyS_C (by omega) hon, by rw [e62]; exact h62, fun q => absurd q hh, fun _ _ => ⟨?_, hS3⟩, fun _ q => absurd q hd⟩
      rw [i_1, nI_add, if_neg (fun q => hd ((nI_ltI (by omega) (by omega)).mp q))]
end
