/-! READING A TEXT: words, the class -/
section
def tWs : List (List Nat) := zbytL.map (fun l => l.map (fun b => b.toNatClampNeg))
def tW (i : Nat) : List Nat := tWs.getD i []
theorem tW_at : ∀ i, i < 16 → zslen i = nI (tW i).length ∧ zsl i = (tW i).length ∧ (∀ k, k < (tW i).length → zschar i k = nI (bA (tW i) k) ∧ 97 ≤ bA (tW i) k ∧ bA (tW i) k ≤ 122) ∧ (tW i).length ≤ 8 ∧ 3 ≤ (tW i).length := by decide +kernel
theorem isLt_at {L : List Nat} {i : Nat} (hb : i < L.length → bA L i < 256) (v : zV) : fX8_isLetter (bQt L i) v = some (if i < L.length ∧ bLt L i = true then 1 else 0, v) := by
  unfold fX8_isLetter bQt
  by_cases q : i < L.length
  · rw [if_pos q]
    have := hb q
    by_cases c1 : bA L i < 97
    · rw [if_pos (show nI (bA L i) < (97 : Int32) from (nI_lt' (b := 97) (by omega) (by omega)).mpr c1), if_neg (fun z => by have := of_decide_eq_true z.2; omega)]
    · rw [if_neg (show ¬ nI (bA L i) < (97 : Int32) from fun z => c1 ((nI_lt' (b := 97) (by omega) (by omega)).mp z))]
      by_cases c2 : 122 < bA L i
      · rw [if_pos (show (122 : Int32) < nI (bA L i) from (nI_lt' (a := 122) (by omega) (by omega)).mpr c2), if_neg (fun z => by have := of_decide_eq_true z.2; omega)]
      · rw [if_neg (show ¬ (122 : Int32) < nI (bA L i) from fun z => c2 ((nI_lt' (a := 122) (by omega) (by omega)).mp z)), if_pos ⟨q, decide_eq_true (by omega)⟩]
  · rw [if_neg q, if_pos (show -nI 1 < (97 : Int32) by decide), if_neg (fun z => q z.1)]
theorem isLt_no (v : zV) : fX8_isLetter (-nI 1) v = some (0, v) := by
  unfold fX8_isLetter
  rw [if_pos (show -nI 1 < (97 : Int32) by decide)]
def tLt (L : List Nat) (τ : rdE) : Bool := match τ with
  | .inl p => decide (p < L.length ∧ bLt L p = true)
  | .inr _ => false
theorem p_looksAtLetter {L : List Nat} {τ : rdE} {v : zV} (h : rdC L τ v) : ∃ w, fX8_looksAtLetter 1 v = some (if tLt L τ = true then 1 else 0, w) ∧ rdC L τ w ∧ exC τ w ∧ fr1 v w := by
  obtain ⟨w, hw, hR, hX, wa, wk⟩ := p_look h
  refine ⟨w, ?_, hR, hX, lk_fr wa wk⟩
  unfold fX8_looksAtLetter
  rw [hw, zbind_some]
  cases τ with
  | inl p =>
    rw [show tLk L (.inl p) = bQt L p from rfl, isLt_at (fun q => (hR.1.2.2 p q).2), zbind_some]
    unfold zbl tLt
    rw [if_pos (by split <;> decide)]
    by_cases q : p < L.length ∧ bLt L p = true
    · rw [if_pos q, if_pos (decide_eq_true q)]
    · rw [if_neg q, if_neg (fun z => q (of_decide_eq_true z))]
  | inr f =>
    rw [show tLk L (.inr f) = -nI 1 from rfl, isLt_no, zbind_some]
    rfl
theorem tWe_ge (L : List Nat) (p : Nat) : p ≤ tWe L p := zfar_ge _ _ _
theorem tWe_le (L : List Nat) {p : Nat} (h : p ≤ L.length) : tWe L p ≤ L.length := by
  have := zfar_le (bLt L) (L.length - p) p
  unfold tWe
  omega
theorem tWe_in {L : List Nat} {p i : Nat} (hp : p ≤ L.length) (hi : p + i < tWe L p) : p + i < L.length ∧ bLt L (p + i) = true := ⟨by have := tWe_le L hp; omega, zfar_in _ _ _ _ (by omega) hi⟩
theorem tWe_out {L : List Nat} {p : Nat} (hp : p ≤ L.length) : ¬ (tWe L p < L.length ∧ bLt L (tWe L p) = true) := fun z => by
  have := zfar_out (bLt L) (L.length - p) p (by have := z.1; unfold tWe at this; omega)
  have z2 := z.2
  unfold tWe at z2
  rw [this] at z2
  cases z2
theorem p_word7 {L : List Nat} {p i : Nat} {v : zV} (h : bBC L v) (h2 : v 1 2 = nI 0) (hp : p ≤ L.length) (h5 : v 1 5 = nI p) : ∀ (d n j : Nat), p + j + d = tWe L p → d < n → fX8_takesWord_7 n 1 i (nI j) v = if nI (tWe L p - p) = zslen i then fX8_takesWord_48 zFU 1 i (nI (tWe L p - p)) 0 v else some (0, v) := by
  have hL := h.1
  have hle := tWe_le L hp
  intro d
  induction d with
  | zero =>
    intro n j e hn
    obtain ⟨n, rfl⟩ : ∃ k, n = k + 1 := ⟨n - 1, by omega⟩
    rw [fX8_takesWord_7]
    dsimp only
    rw [show tWe L p - p = j by omega]
    by_cases c : 600 ≤ j
    · rw [if_pos (show (600 : Int32) ≤ nI j from leY (a := 600) (by omega) (by omega) c)]
    · rw [if_neg (show ¬ (600 : Int32) ≤ nI j from leN (a := 600) (by omega) (by omega) c), h5, nI_add, byteAt_C h h2 (by omega), zbind_some, isLt_at (fun q => (h.2.2 _ q).2), zbind_some, if_neg (show ¬ (p + j < L.length ∧ bLt L (p + j) = true) by rw [show p + j = tWe L p by omega]; exact tWe_out hp), if_pos rfl]
  | succ d ih =>
    intro n j e hn
    obtain ⟨n, rfl⟩ : ∃ k, n = k + 1 := ⟨n - 1, by omega⟩
    rw [fX8_takesWord_7]
    dsimp only
    rw [if_neg (show ¬ (600 : Int32) ≤ nI j from leN (a := 600) (by omega) (by omega) (by omega)), h5, nI_add, byteAt_C h h2 (by omega), zbind_some, isLt_at (fun q => (h.2.2 _ q).2), zbind_some, if_pos (tWe_in hp (by omega)), if_neg (show ¬ (1 : Int32) = 0 by decide), show (nI j + 1 : Int32) = nI (j + 1) from nI_add _ 1]
    exact ih n (j + 1) (by omega) (by omega)
theorem p_word48 {L : List Nat} {p i : Nat} (hi : i < 16) {v : zV} (h : bBC L v) (h2 : v 1 2 = nI 0) (h5 : v 1 5 = nI p) (hp : p + (tW i).length ≤ L.length) (x : Int32) : ∀ (d n j : Nat), j + d = (tW i).length → d < n → fX8_takesWord_48 n 1 i x (nI j) v = if zall (fun k => decide (bA L (p + k) = bA (tW i) k)) d j = true then some (1, zup v 1 5 (v 1 5 + x)) else some (0, v) := by
  obtain ⟨e1, e2, e3, e4, e5⟩ := tW_at i hi
  have hL := h.1
  intro d
  induction d with
  | zero =>
    intro n j e hn
    obtain ⟨n, rfl⟩ : ∃ k, n = k + 1 := ⟨n - 1, by omega⟩
    rw [fX8_takesWord_48]
    dsimp only
    rw [e1, if_pos (leY (by omega) (by omega) (by omega)), zlet_eq, zall, if_pos rfl]
  | succ d ih =>
    intro n j e hn
    obtain ⟨n, rfl⟩ : ∃ k, n = k + 1 := ⟨n - 1, by omega⟩
    have hj := e3 j (by omega)
    have hb := (h.2.2 (p + j) (by omega)).2
    rw [fX8_takesWord_48]
    dsimp only
    rw [e1, if_neg (leN (by omega) (by omega) (by omega)), h5, nI_add, byteAt_C h h2 (by omega), zbind_some, e2, zix_nI (by omega) (by omega), nI_cl' (by omega), hj.1, show bQt L (p + j) = nI (bA L (p + j)) from if_pos (by omega), zall]
    by_cases c : bA L (p + j) = bA (tW i) j
    · rw [if_pos (show nI (bA L (p + j)) = nI (bA (tW i) j) by rw [c]), if_pos (decide_eq_true c), show (nI j + 1 : Int32) = nI (j + 1) from nI_add _ 1, ih n (j + 1) (by omega) (by omega), h5]
    · rw [if_neg (show ¬ nI (bA L (p + j)) = nI (bA (tW i) j) from fun z => c ((nI_eq (by omega) (by omega)).mp z)), if_neg (show ¬ decide (bA L (p + j) = bA (tW i) j) = true from fun z => c (of_decide_eq_true z)), if_neg (by decide)]
theorem p_takesWord {L : List Nat} {τ : rdE} {v : zV} (h : rdC L τ v) {i : Nat} (hi : i < 16) : ∃ w, fX8_takesWord 1 i v = some (if (tTk L (tW i) τ).1 = true then 1 else 0, w) ∧ rdC L (tTk L (tW i) τ).2 w ∧ fr1 v w ∧ ((tTk L (tW i) τ).1 = false → exC (tTk L (tW i) τ).2 w) := by
  obtain ⟨w, hw, hR, hX, wa, wk⟩ := p_look h
  have hfl := lk_fr wa wk
  obtain ⟨e1, e2, e3, e4, e5⟩ := tW_at i hi
  unfold fX8_takesWord
  rw [hw, zbind_some]
  cases τ with
  | inl p =>
    have hp := (rdC_np hR).1
    have hL := hR.1.1
    have w2 : w 1 2 = nI 0 := by obtain ⟨-, p0, -, -, h4, -⟩ := hR; exact h4
    have hge := tWe_ge L p
    have hle := tWe_le L hp
    have e7 := p_word7 (i := i) hR.1 w2 hp (hX p rfl) (tWe L p - p) zFU 0 (by omega) (by unfold zFU; omega)
    rw [show fX8_takesWord_7 zFU 1 i 0 w = fX8_takesWord_7 zFU 1 i (nI 0) w from rfl, e7, e1]
    by_cases c : tWe L p = p + (tW i).length
    · have e8 := p_word48 hi hR.1 w2 (hX p rfl) (by omega) (nI (tWe L p - p)) (tW i).length zFU 0 (Nat.zero_add _) (by unfold zFU; omega)
      rw [if_pos (show nI (tWe L p - p) = nI (tW i).length by rw [show tWe L p - p = (tW i).length by omega]), show fX8_takesWord_48 zFU 1 i (nI (tWe L p - p)) 0 w = fX8_takesWord_48 zFU 1 i (nI (tWe L p - p)) (nI 0) w from rfl, e8]
      by_cases g : zall (fun k => decide (bA L (p + k) = bA (tW i) k)) (tW i).length 0 = true
      · have e : tTk L (tW i) (.inl p) = (true, .inl (tSk L (p + (tW i).length))) := if_pos (by unfold tIs; rw [g, decide_eq_true c]; rfl)
        rw [if_pos g, e, if_pos rfl, hX p rfl, nI_add, show p + (tWe L p - p) = p + (tW i).length by omega]
        exact ⟨_, rfl, rdC_at hR (fr1_5 w _) (p_up_n _ _ (Or.inr (by decide))) (p_up_n _ _ (Or.inr (by decide))) (by omega) (p_up_s _ _ _ _), fr1_tr hfl (fr1_5 w _), fun z => by cases z⟩
      · have e : tTk L (tW i) (.inl p) = (false, .inl p) := if_neg (fun z => by unfold tIs at z; rw [Bool.and_eq_true] at z; exact g z.2)
        rw [if_neg g, e, if_neg Bool.false_ne_true]
        exact ⟨w, rfl, hR, hfl, fun _ => hX⟩
    · have e : tTk L (tW i) (.inl p) = (false, .inl p) := if_neg (fun z => by unfold tIs at z; rw [Bool.and_eq_true] at z; exact c (of_decide_eq_true z.1))
      rw [if_neg (show ¬ nI (tWe L p - p) = nI (tW i).length from fun z => c (by have := (nI_eq (by omega) (by omega)).mp z; omega)), e, if_neg Bool.false_ne_true]
      exact ⟨w, rfl, hR, hfl, fun _ => hX⟩
  | inr f =>
    refine ⟨w, ?_, hR, hfl, fun _ => hX⟩
    rw [show zFU = 99999 + 1 from rfl, fX8_takesWord_7]
    dsimp only
    rw [if_neg (by decide), byteAt_F hR, zbind_some, isLt_no, zbind_some, if_pos rfl, e1, if_neg (show ¬ (0 : Int32) = nI (tW i).length from fun z => by have := (nI_eq (a := 0) (by omega) (by omega)).mp z; omega)]
    rfl
end
