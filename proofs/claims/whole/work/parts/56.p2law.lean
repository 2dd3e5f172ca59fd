/-! the law's value, in the class -/
section
/-- a step of the class's law -/
def sEnc (p : Nat × Nat) : Int32 := if p.1 = 0 then nI p.2 else if p.1 = 1 then -nI (7 + p.2) else -nI (p.1 - 1)
/-- a stack, top first, in the cells from 0 on -/
def pSK (f : Nat → Int32) : List Int32 → Prop
  | [] => True
  | x :: st => f st.length = x ∧ pSK f st
theorem SK_up {f g : Nat → Int32} : ∀ (st : List Int32), (∀ k, k < st.length → g k = f k) → pSK f st → pSK g st := by
  intro st
  induction st with
  | nil => intro _ _; trivial
  | cons x st ih =>
    intro h h2
    exact ⟨(h _ (Nat.lt_succ_self _)).trans h2.1, ih (fun k hk => h k (Nat.lt_succ_of_lt hk)) h2.2⟩
theorem sBy_div (a b : Int32) (h : b = -1) : a / b = -a := by
  subst h
  apply Int32.toInt_inj.mp
  rw [Int32.toInt_div, Int32.toInt_neg]
  simp
theorem p_join {w : Nat} (hw : 2 ≤ w) (h8 : w < 8) (a b : Int32) (v : zV) : fX5_join (-nI (w - 1)) a b v = some (sBy w a b, v) := by
  have hc : w = 2 ∨ w = 3 ∨ w = 4 ∨ w = 5 ∨ w = 6 ∨ w = 7 := by omega
  unfold fX5_join
  rcases hc with rfl | rfl | rfl | rfl | rfl | rfl
  · simp (disch := omega) only [i_1, i_2, i_3, i_4, i_5, gg_eq, sBy, Nat.reduceSub, Nat.reduceEqDiff, ↓reduceIte]
  · simp (disch := omega) only [i_1, i_2, i_3, i_4, i_5, gg_eq, sBy, Nat.reduceSub, Nat.reduceEqDiff, ↓reduceIte]
  · simp (disch := omega) only [i_1, i_2, i_3, i_4, i_5, gg_eq, sBy, Nat.reduceSub, Nat.reduceEqDiff, ↓reduceIte]
  · simp (disch := omega) only [i_1, i_2, i_3, i_4, i_5, gg_eq, sBy, Nat.reduceSub, Nat.reduceEqDiff, ↓reduceIte]
    by_cases hb : b = 0
    · rw [if_pos hb, if_pos hb]
    · rw [if_neg hb, if_neg hb]
      unfold znz
      rw [if_neg hb]
  · simp (disch := omega) only [i_1, i_2, i_3, i_4, i_5, gg_eq, sBy, Nat.reduceSub, Nat.reduceEqDiff, ↓reduceIte]
    split <;> rfl
  · simp (disch := omega) only [i_1, i_2, i_3, i_4, i_5, gg_eq, sBy, Nat.reduceSub, Nat.reduceEqDiff, ↓reduceIte]
    split <;> rfl
/-- the class's law at cell 23 -/
def pCL (v : zV) (l : sL) : Prop := v 23 3 = nI l.length ∧ ∀ k, k < l.length → v 24 k = sEnc (l.getD k (0, 0))
theorem CL_fr {v w : zV} {l : sL} (h : pCL v l) (h1 : w 23 = v 23) (h2 : w 24 = v 24) : pCL w l := ⟨by rw [h1]; exact h.1, fun k hk => by rw [h2]; exact h.2 k hk⟩
theorem getD_drop {l t : sL} {k : Nat} {p : Nat × Nat} (h : l.drop k = p :: t) : k < l.length ∧ l.getD k (0, 0) = p ∧ l.drop (k + 1) = t := by
  have hk : k < l.length := by
    rcases Nat.lt_or_ge k l.length with hk | hk
    · exact hk
    · rw [List.drop_eq_nil_of_le hk] at h
      cases h
  have h2 : l.drop k = l[k] :: l.drop (k + 1) := List.drop_eq_getElem_cons hk
  rw [h2] at h
  cases h
  refine ⟨hk, ?_, rfl⟩
  rw [List.getD_eq_getElem?_getD, List.getElem?_eq_getElem hk]
  rfl
theorem p_valueL {l : sL} (hl : l.length ≤ 150) (f : Nat → Int32) : ∀ (t : sL) (k n : Nat) (st : List Int32) (v : zV), l.drop k = t → k ≤ l.length → pCL v l → (∀ x, x < 7 → v 26 x = f x) → pSK (v 25) st → wfL t st.length → st.length + t.length ≤ 150 → t.length < n → ∃ w, fX5_value_4 n 23 (nI st.length) (nI k) v = some ((sEv f t st).headD 0, w) ∧ ∀ a, a ≠ 25 → w a = v a := by
  intro t
  induction t with
  | nil =>
    intro k n st v hd hkl hC hf hs hw h5 hn
    obtain ⟨n, rfl⟩ : ∃ k, n = k + 1 := ⟨n - 1, by omega⟩
    have hk : k = l.length := by
      rcases Nat.lt_or_ge k l.length with hk | hk
      · rw [List.drop_eq_getElem_cons hk] at hd; cases hd
      · omega
    subst hk
    have hw1 : st.length = 1 := hw
    refine ⟨v, ?_, fun _ _ => rfl⟩
    rw [fX5_value_4]
    dsimp only
    match st, hs, hw1 with
    | [x], hs, _ =>
      have e0 : v 25 0 = x := hs.1
      rw [hC.1, if_pos (Int32.le_refl _)]
      simp (disch := omega) only [i_0, rf_23_1, ln_25, zix_nI, nI_cl', e0, sEv, List.headD]
  | cons p t ih =>
    intro k n st v hd hkl hC hf hs hw h5 hn
    obtain ⟨n, rfl⟩ : ∃ k, n = k + 1 := ⟨n - 1, by omega⟩
    obtain ⟨hk, hp, hd2⟩ := getD_drop hd
    have hst := hC.2 k hk
    rw [hp] at hst
    obtain ⟨w, x⟩ := p
    rw [List.length_cons] at h5 hn
    rw [fX5_value_4]
    dsimp only
    have hk150 : k < 150 := by omega
    rw [show (-1 : Int32) = -nI 1 from rfl, show (-6 : Int32) = -nI 6 from rfl]
    simp (disch := omega) only [i_0, i_1, i_2, rf_23_0, rf_23_1, ln_24, ln_25, hC.1, ofN_nI, zix_nI, nI_cl', hst]
    rw [if_neg (nI_ge hk (by omega)), if_neg (nI_ge hk150 (by decide))]
    unfold wfL at hw
    by_cases h2 : w < 2
    · rw [if_pos h2] at hw
      have hcont : ∀ y : Int32, y = (if w = 0 then nI x else f x) → ∃ u, fX5_value_4 n 23 (nI st.length + nI 1) (nI k + nI 1) (zup v 25 st.length y) = some ((sEv f ((w, x) :: t) st).headD 0, u) ∧ ∀ a, a ≠ 25 → u a = v a := by
        intro y hy
        obtain ⟨u, hu, hu2⟩ := ih (k + 1) n (y :: st) (zup v 25 st.length y) hd2 (by omega) (CL_fr hC (p_up_a _ _ _ (by decide)) (p_up_a _ _ _ (by decide))) (fun x hx => by rw [p_up_a _ _ _ (by decide)]; exact hf x hx) ⟨p_up_s _ _ _ _, SK_up st (fun j hj => p_up_n v _ (Or.inr (by omega))) hs⟩ hw.2 (by rw [List.length_cons]; omega) (by omega)
        refine ⟨u, ?_, fun a ha => (hu2 a ha).trans (p_up_a _ _ _ ha)⟩
        rw [nI_add, nI_add]
        rw [List.length_cons] at hu
        rw [hu, sEv_push h2, ← hy]
      have hw01 : w = 0 ∨ w = 1 := by omega
      rcases hw01 with rfl | rfl
      · have hx : x ≤ 999 := hw.1.1 rfl
        have e : sEnc (0, x) = nI x := rfl
        rw [e]
        simp (disch := omega) only [ng_lt, ↓reduceIte]
        unfold fX5_value_87
        simp (disch := omega) only [rf_23_1, ln_25, ofN_nI, zix_nI, nI_cl', zlet_eq]
        rw [if_neg (nI_ge (show st.length < 150 by omega) (by decide)), if_neg (show ¬ nI x < 0 from nI_pos (by omega))]
        exact hcont (nI x) rfl
      · have hx : x < 7 := hw.1.2 rfl
        have e : sEnc (1, x) = -nI (7 + x) := rfl
        rw [e]
        simp (disch := omega) only [gg_lt]
        rw [if_neg (by omega), if_pos (by omega)]
        unfold fX5_value_87
        rw [show (-7 : Int32) = -nI 7 from rfl]
        simp (disch := omega) only [rf_23_1, rf_23_2, ln_25, ofN_nI, zix_nI, nI_cl', zlet_eq, gg_sub]
        rw [if_neg (nI_ge (show st.length < 150 by omega) (by decide)), if_pos (show -nI (7 + x) < 0 from of_eq_true (ng_lt (a := 0) (k := 7 + x) (by decide) (by omega) (by omega))), show 7 + x - 7 = x by omega, p_get (by rw [ln_26]; exact hx)]
        show ∃ w, fX5_value_4 n 23 (nI st.length + 1) (nI k + 1) (zup v 25 st.length (v 26 x)) = _ ∧ _
        rw [hf x hx]
        exact hcont (f x) rfl
    · rw [if_neg h2] at hw
      obtain ⟨h8, hl2, hw3⟩ := hw
      match st, hs, hl2, hw3, h5 with
      | b :: a :: st', hs, hl2, hw3, h5 =>
        have hb : v 25 (st'.length + 1) = b := hs.1
        have ha : v 25 st'.length = a := hs.2.1
        have e : sEnc (w, x) = -nI (w - 1) := by unfold sEnc; rw [if_neg (by show ¬ w = 0; omega), if_neg (by show ¬ w = 1; omega)]
        rw [e]
        simp (disch := omega) only [List.length_cons, gg_lt, nI_sub']
        rw [if_neg (by omega), if_neg (by omega)]
        rw [if_neg (show ¬ nI (st'.length + 1 + 1) < nI 2 from nI_nlt (by omega) (by rw [List.length_cons, List.length_cons] at h5; omega)), if_neg (show ¬ nI 150 < nI (st'.length + 1 + 1) from nI_nlt (by rw [List.length_cons, List.length_cons] at h5; omega) (by decide))]
        rw [List.length_cons, List.length_cons] at h5
        rw [show st'.length + 1 + 1 - 2 = st'.length by omega, show st'.length + 1 + 1 - 1 = st'.length + 1 by omega]
        simp (disch := omega) only [zix_nI, nI_cl', ha, hb, p_join (w := w), zbind_some, zlet_eq, nI_add]
        rw [nI_addg (a := st'.length + 1 + 1) (b := 1) (by omega), show st'.length + 1 + 1 - 1 = st'.length + 1 by omega]
        obtain ⟨u, hu, hu2⟩ := ih (k + 1) n (sBy w a b :: st') (zup v 25 st'.length (sBy w a b)) hd2 (by omega) (CL_fr hC (p_up_a _ _ _ (by decide)) (p_up_a _ _ _ (by decide))) (fun x hx => by rw [p_up_a _ _ _ (by decide)]; exact hf x hx) ⟨p_up_s _ _ _ _, SK_up st' (fun j hj => p_up_n v _ (Or.inr (by omega))) hs.2.2⟩ hw3 (by rw [List.length_cons]; omega) (by omega)
        refine ⟨u, ?_, fun a ha => (hu2 a ha).trans (p_up_a _ _ _ ha)⟩
        rw [List.length_cons] at hu
        rw [hu, sEv_pop h2]
        rfl
theorem p_value {l : sL} (hl : okL l) (f : Nat → Int32) {v : zV} (hC : pCL v l) (hf : ∀ x, x < 7 → v 26 x = f x) : ∃ w, fX5_value 23 v = some (sVal l f, w) ∧ ∀ a, a ≠ 25 → w a = v a := by
  unfold fX5_value
  exact p_valueL hl.2 f l 0 zFU [] v List.drop_zero (Nat.zero_le _) hC hf trivial hl.1 (by have := hl.2; show 0 + _ ≤ _; omega) (by have := hl.2; unfold zFU; omega)
end
