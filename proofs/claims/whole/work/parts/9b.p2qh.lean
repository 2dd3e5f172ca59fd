/-! THE QUESTIONS, call by call: helpers -/
section
theorem pwY {x lo hi : Int32} {a b : Nat} (ha : a < 2 ^ 31) (hb : b < 2 ^ 31) (el : lo = nI a) (eh : hi = nI b) (h : inB x a b) {v : zV} : fX9_within x lo hi v = some (1, v) := by
  rw [el, eh]
  exact (pa_within ha hb v).1 h
theorem pwN {x lo hi : Int32} {a b : Nat} (ha : a < 2 ^ 31) (hb : b < 2 ^ 31) (el : lo = nI a) (eh : hi = nI b) (h : ¬ inB x a b) {v : zV} : fX9_within x lo hi v = some (0, v) := by
  rw [el, eh]
  exact (pa_within ha hb v).2 h
theorem pinY {x lo hi : Int32} {a b : Nat} (ha : a < 2 ^ 31) (hb : b < 2 ^ 31) (el : lo = nI a) (eh : hi = nI b) (h : inB x a b) {v : zV} : fX10_in x lo hi v = some (1, v) := pwY ha hb el eh h
theorem pinN {x lo hi : Int32} {a b : Nat} (ha : a < 2 ^ 31) (hb : b < 2 ^ 31) (el : lo = nI a) (eh : hi = nI b) (h : ¬ inB x a b) {v : zV} : fX10_in x lo hi v = some (0, v) := pwN ha hb el eh h
theorem pwNY {x : Int32} {n : Nat} (hn : n < 2 ^ 31) (h : inN x n) {v : zV} : fX9_within x 0 (nI n - 1) v = some (1, v) := (pa_withinN hn v).1 h
theorem pwNN {x : Int32} {n : Nat} (hn : n < 2 ^ 31) (h : ¬ inN x n) {v : zV} : fX9_within x 0 (nI n - 1) v = some (0, v) := (pa_withinN hn v).2 h
theorem pneedY {v : zV} : fX9_need 0 1 v = some (0, 0, v) := p_need.1
theorem pneedN {v : zV} : fX9_need 0 0 v = some (2, 0, zup v 0 16 (v 0 16 + 1)) := p_need.2
theorem pmanY {x : Int32} {u : zV} {α : sA} (h1 : u 120 1 = nI (α 0 1)) (hM : α 0 1 ≤ 16) (h : inN x (α 0 1)) : fX10_isMan 116 x u = some (1, u) := (p_mIsMan h1 hM).1 h
theorem pmanN {x : Int32} {u : zV} {α : sA} (h1 : u 120 1 = nI (α 0 1)) (hM : α 0 1 ≤ 16) (h : ¬ inN x (α 0 1)) : fX10_isMan 116 x u = some (0, u) := (p_mIsMan h1 hM).2 h
theorem pquY {x : Int32} {u : zV} {α : sA} (h1 : u 120 0 = nI (α 0 0)) (hM : α 0 0 ≤ 6) (h : inN x (α 0 0)) : fX10_isQuestion 116 x u = some (1, u) := (p_mIsQ h1 hM).1 h
theorem pquN {x : Int32} {u : zV} {α : sA} (h1 : u 120 0 = nI (α 0 0)) (hM : α 0 0 ≤ 6) (h : ¬ inN x (α 0 0)) : fX10_isQuestion 116 x u = some (0, u) := (p_mIsQ h1 hM).2 h
theorem pb0 {u : zV} (h : u 116 0 = nI 0) {y z : Int32} : fX10_bad 116 0 y z u = some (0, u) := p_bad0 h y z
theorem pb1_10 {u : zV} (h : u 116 0 = nI 0) : fX10_bad 116 1 1 0 u = some (1, zup (zup u 116 0 (nI 1)) 118 0 (u 118 0 + nI 1)) := p_bad1 h (y := 1) (z := 0) (by decide) (by decide) (by decide)
theorem pb1_11 {u : zV} (h : u 116 0 = nI 0) : fX10_bad 116 1 1 1 u = some (1, zup (zup u 116 0 (nI 1)) 118 1 (u 118 1 + nI 1)) := p_bad1 h (y := 1) (z := 1) (by decide) (by decide) (by decide)
theorem pb1_21 {u : zV} (h : u 116 0 = nI 0) : fX10_bad 116 1 2 1 u = some (1, zup (zup u 116 0 (nI 2)) 118 1 (u 118 1 + nI 1)) := p_bad1 h (y := 2) (z := 1) (by decide) (by decide) (by decide)
theorem qMD {α : sA} {l : sL} {β : sB} {ρ ρb : sR} {im : List sR} {tp : List Nat} {pl r0 r1 : Int32} {v : zV} (h : pIM α l β ρ ρb im tp pl r0 r1 v) : MDq v α l β none := ⟨h.1, h.2.1, h.2.2.2.2.1, h.2.2.2.2.2.1.1, h.2.2.2.2.2.1.2.1, h.2.2.2.2.2.1.2.2⟩
theorem qM0 {α : sA} {l : sL} {β : sB} {ρ ρb : sR} {im : List sR} {tp : List Nat} {pl r0 r1 : Int32} {v : zV} (hs : okS α l β ρ ρb im tp) (h : pIM α l β ρ ρb im tp pl r0 r1 v) : (zup v 116 0 0) 116 0 = nI 0 ∧ (zup v 116 0 0) 120 1 = nI (α 0 1) ∧ (zup v 116 0 0) 120 0 = nI (α 0 0) ∧ MQ' (zup v 116 0 0) α l ρ ∧ MDq (zup v 116 0 0) α l β none ∧ eqM (zup v 116 0 0) α ρ := by
  have hM := IM_f hs.1 hs.2.1 hs.2.2.1.1 hs.2.2.2.2.2.2.1.1 h (w := zup v 116 0 0) (fun a g1 _ _ _ => p_up_a _ _ _ (by omega)) (fun k g _ _ _ _ _ _ _ => p_up_n _ _ (Or.inr g))
  have hq : MQ' (zup v 116 0 0) α l ρ := ⟨hM.1, hM.2.2.1, hM.2.2.2.2.2.1⟩
  exact ⟨p_up_s _ _ _ _, hM.1.1.1 1 (by decide), hM.1.1.1 0 (by decide), hq, qMD hM, eqM_of hq ⟨hs.1, hs.2.1, hs.2.2.2.1.1, hs.2.2.2.1.2⟩⟩
theorem l567 : zlen 567 = 305 := m567.1
theorem zx61 {β : Type} {k : Option β} : zix 61 305 k = k := Eq.trans rfl rfl
theorem c61 : (61 : Int32).toNatClampNeg = 61 := rfl
theorem p61 {α : sA} {l : sL} {ρ : sR} {u : zV} (h : MQ' u α l ρ) : u 567 61 = nI (sCh ρ).length := h.2.1.1.1
theorem nI_is0 {t : Nat} (h : t < 100) : (nI t = (0 : Int32)) = (t = 0) := nI_eq' (b := 0) (by omega) (by omega)
theorem nI_is1 {t : Nat} (h : t < 100) : (nI t = (1 : Int32)) = (t = 1) := nI_eq' (b := 1) (by omega) (by omega)
theorem nI_is2 {t : Nat} (h : t < 100) : (nI t = (2 : Int32)) = (t = 2) := nI_eq' (b := 2) (by omega) (by omega)
theorem nI_is3 {t : Nat} (h : t < 100) : (nI t = (3 : Int32)) = (t = 3) := nI_eq' (b := 3) (by omega) (by omega)
theorem nI_is4 {t : Nat} (h : t < 100) : (nI t = (4 : Int32)) = (t = 4) := nI_eq' (b := 4) (by omega) (by omega)
theorem nI_is5 {t : Nat} (h : t < 100) : (nI t = (5 : Int32)) = (t = 5) := nI_eq' (b := 5) (by omega) (by omega)
theorem nI_is6 {t : Nat} (h : t < 100) : (nI t = (6 : Int32)) = (t = 6) := nI_eq' (b := 6) (by omega) (by omega)
theorem nI_is7 {t : Nat} (h : t < 100) : (nI t = (7 : Int32)) = (t = 7) := nI_eq' (b := 7) (by omega) (by omega)
theorem pT2 {t : Nat} (h : t ≤ 1) {a b : Int32} {w : zV} : (if nI t = (0 : Int32) then some ((0 : Nat), a, w) else some (0, b, w)) = some (0, (if t = 0 then a else b), w) := by
  simp only [nI_is0 (show t < 100 by omega)]
  split <;> rfl
theorem pT3 {t : Nat} (h : t ≤ 1) {a b : Int32} {w : zV} : (if nI t = (0 : Int32) then some (a, w) else some (b, w)) = some ((if t = 0 then a else b), w) := by
  simp only [nI_is0 (show t < 100 by omega)]
  split <;> rfl
theorem pT4 {t : Nat} (h : t ≤ 2) {s : sSp} {w : zV} : (if nI t = (0 : Int32) then some ((0 : Nat), nI s.1, w) else if nI t = (1 : Int32) then some (0, nI s.2.1, w) else some (0, nI s.2.2, w)) = some (0, sSpO s t, w) := by
  simp only [nI_is0 (show t < 100 by omega), nI_is1 (show t < 100 by omega)]
  unfold sSpO
  split
  · rfl
  · split <;> rfl
end
