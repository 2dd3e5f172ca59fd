/-- a cell that is a Row of the class -/
def isRow (i : Nat) : Prop := zrf i 8 = i + 1 ∧ zrf i 9 = i + 2 ∧ zrf i 10 = i + 3 ∧ zrf i 11 = i + 4 ∧ zrf i 12 = i + 5 ∧ zlen (i + 1) = 13 ∧ zlen (i + 2) = 16 ∧ zlen (i + 3) = 16 ∧ zlen (i + 4) = 16 ∧ zlen (i + 5) = 16
def rowCells : List Nat := [37, 43, 53, 63, 69, 75, 81, 88, 98, 104, 110]
theorem isRow_all : ∀ i ∈ rowCells, isRow i := by
  unfold isRow
  decide +kernel
/-- the class's row at cell i holds ρ -/
def RC (i : Nat) (v : zV) (ρ : sR) : Prop :=
  (v i 0 = nI (sSc ρ 0) ∧ v i 1 = nI (sCh ρ).length ∧ v i 2 = nI (sSc ρ 1) ∧ v i 3 = nI (sSc ρ 2) ∧ v i 4 = nI (sSc ρ 3) ∧ v i 5 = nI (sSc ρ 4) ∧ v i 6 = nI (sSc ρ 5) ∧ ∃ y, y ≤ sSc ρ 0 ∧ v i 7 = nI y) ∧
  (∀ c, c < (sCh ρ).length → v (i + 1) c = nI ((sCh ρ).getD c 0)) ∧ (∀ m, m < 16 → v (i + 2) m = nI (sSt ρ m)) ∧ (∀ m, m < 16 → v (i + 3) m = nI (sWt ρ m)) ∧ (∀ m, m < 16 → sSc ρ 9 = 0 → v (i + 4) m = sSn ρ m) ∧
  ∀ m, m < 16 → (if v i 7 = v i 0 then v (i + 5) m else 0) = sAs ρ m
/-- what a row may be -/
def okC (ρ : sR) : Prop := (sCh ρ).length ≤ 13 ∧ (∀ m ∈ sCh ρ, m < 16) ∧ (∀ m, sSt ρ m < 4) ∧ sSc ρ 0 < 100000
/-- nothing but the row's cells differs -/
def onlyR (i : Nat) (v w : zV) : Prop := ∀ a, a < i ∨ i + 5 < a → w a = v a
theorem onlyR_rf (i : Nat) (v : zV) : onlyR i v v := fun _ _ => rfl
theorem onlyR_tr {i : Nat} {v w u : zV} (h1 : onlyR i v w) (h2 : onlyR i w u) : onlyR i v u := fun a h => (h2 a h).trans (h1 a h)
theorem onlyR_up {i a : Nat} (v : zV) (k : Nat) (x : Int32) (h1 : i ≤ a) (h2 : a ≤ i + 5) : onlyR i v (zup v a k x) := fun b hb => p_up_a v k x (by omega)
theorem p_isWaiting {i : Nat} (hi : isRow i) {v : zV} {ρ : sR} (h : RC i v ρ) (ho : okC ρ) {m : Nat} (hm : m < 16) : fX7_isWaiting i (nI m) v = some (if sSt ρ m = 0 then 1 else 0, v) := by
  obtain ⟨-, -, hs, -⟩ := h
  unfold fX7_isWaiting
  rw [hi.2.1, p_get (by rw [hi.2.2.2.2.2.2.1]; exact hm)]
  show (if v (i + 2) m = 0 then some (1, v) else some (0, v)) = _
  rw [hs m hm]
  have h4 := ho.2.2.1 m
  by_cases e : sSt ρ m = 0
  · rw [e, if_pos rfl, if_pos nI_0]
  · rw [if_neg e, if_neg (nI_ne0 (by omega) (by omega))]
theorem p_isAlive {i : Nat} (hi : isRow i) {v : zV} {ρ : sR} (h : RC i v ρ) (ho : okC ρ) {m : Nat} (hm : m < 16) : fX7_isAlive i (nI m) v = some (if sSt ρ m = 3 then 0 else 1, v) := by
  obtain ⟨-, -, hs, -⟩ := h
  unfold fX7_isAlive
  rw [hi.2.1, p_get (by rw [hi.2.2.2.2.2.2.1]; exact hm)]
  show (if v (i + 2) m = nI 3 then some (nI 0, v) else some (nI 1, v)) = some (if sSt ρ m = 3 then nI 0 else nI 1, v)
  rw [hs m hm]
  have h4 := ho.2.2.1 m
  by_cases e : sSt ρ m = 3
  · rw [e, if_pos rfl, if_pos rfl]
  · rw [if_neg e, if_neg (fun q => e ((nI_eq (by omega) (by omega)).mp (show nI (sSt ρ m) = nI 3 from q)))]
theorem p_onChair {i : Nat} (hi : isRow i) {v : zV} {ρ : sR} (h : RC i v ρ) (ho : okC ρ) {c : Nat} (hc : c < (sCh ρ).length) : fX7_onChair i (nI c) v = some (nI ((sCh ρ).getD c 0), v) := by
  obtain ⟨⟨-, hl, -⟩, hch, -⟩ := h
  have h13 := ho.1
  unfold fX7_onChair
  rw [if_neg (nI_pos (by omega)), hl, if_neg (nI_ge hc (by omega)), hi.1, p_get (by rw [hi.2.2.2.2.2.1]; omega)]
  show some (v (i + 1) c, v) = _
  rw [hch c hc]
theorem p_onChairN {i : Nat} {v : zV} {ρ : sR} (h : RC i v ρ) (ho : okC ρ) {x : Int32} (hx : x < 0 ∨ nI (sCh ρ).length ≤ x) : fX7_onChair i x v = some (-1, v) := by
  obtain ⟨⟨-, hl, -⟩, -⟩ := h
  unfold fX7_onChair
  by_cases h0 : x < 0
  · rw [if_pos h0]
  · rw [if_neg h0, hl, if_pos (hx.resolve_left h0)]
theorem p_last {i : Nat} (hi : isRow i) {v : zV} {ρ : sR} (h : RC i v ρ) (ho : okC ρ) : fX7_last i v = some (oI (sLastO ρ), v) := by
  obtain ⟨⟨-, hl, -⟩, hch, -⟩ := h
  have h13 := ho.1
  unfold fX7_last sLastO
  rw [hl]
  rcases Nat.eq_zero_or_pos (sCh ρ).length with h0 | h0
  · rw [h0, if_pos (by decide), if_pos rfl]
    rfl
  · rw [if_neg (nI_nle h0 (by omega)), hi.1, if_neg (by omega)]
    have e : nI (sCh ρ).length - 1 = nI ((sCh ρ).length - 1) := pk_sub (b := 1) h0
    rw [e, p_get (by rw [hi.2.2.2.2.2.1]; omega)]
    show some (v (i + 1) ((sCh ρ).length - 1), v) = _
    rw [hch _ (by omega)]
    rfl
/-- the chair of a man, from chair j on -/
def sFind (l : List Nat) (m : Nat) (j : Nat) : Int32 := match (l.drop j).findIdx? (fun x => x == m) with
  | none => -1
  | some k => nI (j + k)
theorem p_chairOfL {i : Nat} (hi : isRow i) {v : zV} {ρ : sR} (h : RC i v ρ) (ho : okC ρ) {m : Nat} (hm : m < 16) : ∀ (d n j : Nat), d = (sCh ρ).length - j → j ≤ (sCh ρ).length → d < n → fX7_chairOf_2 n i (nI m) (nI j) v = some (sFind (sCh ρ) m j, v) := by
  obtain ⟨⟨-, hl, -⟩, hch, -⟩ := h
  have h13 := ho.1
  intro d
  induction d with
  | zero =>
    intro n j hd hj hn
    obtain ⟨n, rfl⟩ : ∃ k, n = k + 1 := ⟨n - 1, by omega⟩
    have e : j = (sCh ρ).length := by omega
    rw [fX7_chairOf_2]
    dsimp only
    rw [hl, if_pos (by rw [e]; exact Int32.le_refl _)]
    unfold sFind
    rw [e, List.drop_length]
    rfl
  | succ d ih =>
    intro n j hd hj hn
    obtain ⟨n, rfl⟩ : ∃ k, n = k + 1 := ⟨n - 1, by omega⟩
    have hjl : j < (sCh ρ).length := by omega
    rw [fX7_chairOf_2]
    dsimp only
    rw [hl, if_neg (nI_ge hjl (by omega)), hi.1, p_get (by rw [hi.2.2.2.2.2.1]; omega)]
    show (if v (i + 1) j = nI m then some (nI j, v) else fX7_chairOf_2 n i (nI m) (nI j + 1) v) = _
    rw [hch j hjl, List.getD_eq_getElem?_getD, List.getElem?_eq_getElem hjl]
    have hm9 : (sCh ρ)[j] < 16 := ho.2.1 _ (List.getElem_mem hjl)
    have hdr : (sCh ρ).drop j = (sCh ρ)[j] :: (sCh ρ).drop (j + 1) := List.drop_eq_getElem_cons hjl
    unfold sFind
    rw [hdr, List.findIdx?_cons]
    by_cases e : (sCh ρ)[j] = m
    · rw [Option.getD_some, e, if_pos rfl]
      simp
    · rw [Option.getD_some, if_neg (fun q => e ((nI_eq (by omega) (by omega)).mp q)), nI_1, ih n (j + 1) (by omega) (by omega) (by omega)]
      unfold sFind
      have e2 : ((sCh ρ)[j] == m) = false := by simp [e]
      rw [e2]
      cases hf : ((sCh ρ).drop (j + 1)).findIdx? (fun x => x == m) with
      | none => rfl
      | some k =>
        simp only [Option.map_some, Bool.false_eq_true, if_false]
        rw [show j + 1 + k = j + (k + 1) by omega]
theorem p_chairOf {i : Nat} (hi : isRow i) {v : zV} {ρ : sR} (h : RC i v ρ) (ho : okC ρ) {m : Nat} (hm : m < 16) : fX7_chairOf i (nI m) v = some (sFind (sCh ρ) m 0, v) := by
  have h13 := ho.1
  unfold fX7_chairOf
  exact p_chairOfL hi h ho hm _ zFU 0 rfl (Nat.zero_le _) (by unfold zFU; omega)
theorem sFind_ix (l : List Nat) (m : Nat) : sFind l m 0 = oI (sIx l m) := by
  unfold sFind sIx
  rw [List.drop_zero]
  cases List.findIdx? (fun x => x == m) l with
  | none => rfl
  | some k =>
    show nI (0 + k) = nI k
    rw [Nat.zero_add]
/-! the class's row: what its writes do -/
theorem p_vacL {i : Nat} (hi : isRow i) {len : Nat} (hl13 : len ≤ 13) : ∀ (d n j : Nat) (v : zV), d = len - j → 1 ≤ j → j ≤ len → v i 1 = nI len → d < n → ∃ w, fX7_vacate_17 n i (nI j) v = some (zup w i 1 (nI len - 1)) ∧ (∀ a, a ≠ i + 1 → w a = v a) ∧ ∀ c, w (i + 1) c = if j - 1 ≤ c ∧ c + 1 < len then v (i + 1) (c + 1) else v (i + 1) c := by
  intro d
  induction d with
  | zero =>
    intro n j v hd h1 hj hl hn
    obtain ⟨n, rfl⟩ : ∃ k, n = k + 1 := ⟨n - 1, by omega⟩
    have e : j = len := by omega
    subst e
    refine ⟨v, ?_, fun _ _ => rfl, fun c => ?_⟩
    · rw [fX7_vacate_17]
      dsimp only
      rw [hl, if_pos (Int32.le_refl _)]
      rfl
    · rw [if_neg (by omega)]
  | succ d ih =>
    intro n j v hd h1 hj hl hn
    obtain ⟨n, rfl⟩ : ∃ k, n = k + 1 := ⟨n - 1, by omega⟩
    have hjl : j < len := by omega
    have hne : i ≠ i + 1 := by omega
    obtain ⟨w, hw, ha, hc⟩ := ih n (j + 1) (zup v (i + 1) (j - 1) (v (i + 1) j)) (by omega) (by omega) (by omega) (by rw [p_up_a v _ _ hne]; exact hl) (by omega)
    refine ⟨w, ?_, fun a h => (ha a h).trans (p_up_a v _ _ h), fun c => ?_⟩
    · rw [fX7_vacate_17]
      dsimp only
      rw [hl, if_neg (nI_ge hjl (by omega)), hi.1, p_get (by rw [hi.2.2.2.2.2.1]; omega)]
      show zbindv (fX9_set (i + 1) (nI j - 1) (v (i + 1) j) v) _ = _
      have e : nI j - 1 = nI (j - 1) := pk_sub (b := 1) h1
      rw [e, p_set (by rw [hi.2.2.2.2.2.1]; omega)]
      show fX7_vacate_17 n i (nI j + 1) (zup v (i + 1) (j - 1) (v (i + 1) j)) = _
      rw [nI_1]
      exact hw
    · rw [hc c]
      by_cases h9 : j + 1 - 1 ≤ c ∧ c + 1 < len
      · rw [if_pos h9, if_pos (by omega), p_up_n v _ (Or.inr (by omega))]
      · rw [if_neg h9]
        by_cases h8 : c = j - 1
        · subst h8
          rw [p_up_s, if_pos (by omega), show j - 1 + 1 = j by omega]
        · rw [p_up_n v _ (Or.inr h8), if_neg (by omega)]
theorem p_vacate {i : Nat} (hi : isRow i) {v : zV} {ρ : sR} (h : RC i v ρ) (ho : okC ρ) {c : Nat} (hc : c < (sCh ρ).length) : ∃ w, fX7_vacate i (nI c) v = some w ∧ RC i w (rUpCh ρ ((sCh ρ).eraseIdx c)) ∧ onlyR i v w := by
  obtain ⟨⟨h0, hl, h2, h3, h4, h5, h6, h7⟩, hch, hst, hwt, hsn, has⟩ := h
  have h13 := ho.1
  obtain ⟨w, hw, ha, hcc⟩ := p_vacL hi h13 _ zFU (c + 1) v rfl (by omega) (by omega) hl (by unfold zFU; omega)
  have hlen : ((sCh ρ).eraseIdx c).length = (sCh ρ).length - 1 := by rw [List.length_eraseIdx, if_pos hc]
  have e1 : nI (sCh ρ).length - 1 = nI ((sCh ρ).length - 1) := pk_sub (b := 1) (by omega)
  refine ⟨zup w i 1 (nI (sCh ρ).length - 1), ?_, ?_, fun a h => ?_⟩
  · unfold fX7_vacate
    rw [if_neg (nI_pos (by omega)), hl, if_pos (nI_lt hc (by omega)), nI_1]
    exact hw
  · have hi0 : ∀ k, k ≠ 1 → zup w i 1 (nI (sCh ρ).length - 1) i k = v i k := fun k hk => by rw [p_up_n w _ (Or.inr hk), ha i (by omega)]
    have hia : ∀ a, a ≠ i → a ≠ i + 1 → zup w i 1 (nI (sCh ρ).length - 1) a = v a := fun a h1 h2 => by rw [p_up_a w _ _ h1, ha a h2]
    refine ⟨⟨?_, ?_, ?_, ?_, ?_, ?_, ?_, ?_⟩, fun k hk => ?_, fun m hm => ?_, fun m hm => ?_, fun m hm => ?_, fun m hm => ?_⟩
    · rw [hi0 0 (by decide)]; exact h0
    · rw [p_up_s, e1]
      exact congrArg nI hlen.symm
    · rw [hi0 2 (by decide)]; exact h2
    · rw [hi0 3 (by decide)]; exact h3
    · rw [hi0 4 (by decide)]; exact h4
    · rw [hi0 5 (by decide)]; exact h5
    · rw [hi0 6 (by decide)]; exact h6
    · rw [hi0 7 (by decide)]; exact h7
    · have hk' : k < (sCh ρ).length - 1 := by
        have : k < ((sCh ρ).eraseIdx c).length := hk
        omega
      rw [p_up_a w _ _ (by omega : i + 1 ≠ i), hcc k]
      show _ = nI (((sCh ρ).eraseIdx c).getD k 0)
      rw [List.getD_eq_getElem?_getD, List.getElem?_eraseIdx]
      by_cases hkc : k < c
      · rw [if_neg (by omega), if_pos hkc, hch k (by omega), List.getD_eq_getElem?_getD]
      · rw [if_pos (by omega), if_neg hkc, hch (k + 1) (by omega), List.getD_eq_getElem?_getD]
    · rw [hia _ (by omega) (by omega)]; exact hst m hm
    · rw [hia _ (by omega) (by omega)]; exact hwt m hm
    · rw [hia _ (by omega) (by omega)]; exact hsn m hm
    · rw [hi0 7 (by decide), hi0 0 (by decide), hia _ (by omega) (by omega)]; exact has m hm
  · rw [p_up_a w _ _ (by omega), ha a (by omega)]
theorem RC_st {i : Nat} {v : zV} {ρ : sR} (h : RC i v ρ) {m : Nat} (s : Nat) : RC i (zup v (i + 2) m (nI s)) (rUpSt ρ (sUp (sSt ρ) m s)) := by
  obtain ⟨h0, hch, hst, hwt, hsn, has⟩ := h
  have e0 : ∀ a, a ≠ i + 2 → zup v (i + 2) m (nI s) a = v a := fun a ha => p_up_a v _ _ ha
  refine ⟨?_, fun k hk => ?_, fun k hk => ?_, fun k hk => ?_, fun k hk => ?_, fun k hk => ?_⟩
  · rw [e0 i (by omega)]; exact h0
  · rw [e0 (i + 1) (by omega)]; exact hch k hk
  · rw [p_up]
    show _ = nI (sUp (sSt ρ) m s k)
    unfold sUp
    by_cases e : k = m
    · rw [if_pos ⟨rfl, e⟩, if_pos e]
    · rw [if_neg (fun q => e q.2), if_neg e]; exact hst k hk
  · rw [e0 (i + 3) (by omega)]; exact hwt k hk
  · rw [e0 (i + 4) (by omega)]; exact hsn k hk
  · rw [e0 i (by omega), e0 (i + 5) (by omega)]; exact has k hk
theorem RC_wt {i : Nat} {v : zV} {ρ : sR} (h : RC i v ρ) {m : Nat} (s : Nat) : RC i (zup v (i + 3) m (nI s)) (rUpWt ρ (sUp (sWt ρ) m s)) := by
  obtain ⟨h0, hch, hst, hwt, hsn, has⟩ := h
  have e0 : ∀ a, a ≠ i + 3 → zup v (i + 3) m (nI s) a = v a := fun a ha => p_up_a v _ _ ha
  refine ⟨?_, fun k hk => ?_, fun k hk => ?_, fun k hk => ?_, fun k hk => ?_, fun k hk => ?_⟩
  · rw [e0 i (by omega)]; exact h0
  · rw [e0 (i + 1) (by omega)]; exact hch k hk
  · rw [e0 (i + 2) (by omega)]; exact hst k hk
  · rw [p_up]
    show _ = nI (sUp (sWt ρ) m s k)
    unfold sUp
    by_cases e : k = m
    · rw [if_pos ⟨rfl, e⟩, if_pos e]
    · rw [if_neg (fun q => e q.2), if_neg e]; exact hwt k hk
  · rw [e0 (i + 4) (by omega)]; exact hsn k hk
  · rw [e0 i (by omega), e0 (i + 5) (by omega)]; exact has k hk
theorem RC_sn {i : Nat} {v : zV} {ρ : sR} (h : RC i v ρ) {m : Nat} (s : Int32) : RC i (zup v (i + 4) m s) (rUpSn ρ (sUp (sSn ρ) m s)) := by
  obtain ⟨h0, hch, hst, hwt, hsn, has⟩ := h
  have e0 : ∀ a, a ≠ i + 4 → zup v (i + 4) m s a = v a := fun a ha => p_up_a v _ _ ha
  refine ⟨?_, fun k hk => ?_, fun k hk => ?_, fun k hk => ?_, fun k hk => ?_, fun k hk => ?_⟩
  · rw [e0 i (by omega)]; exact h0
  · rw [e0 (i + 1) (by omega)]; exact hch k hk
  · rw [e0 (i + 2) (by omega)]; exact hst k hk
  · rw [e0 (i + 3) (by omega)]; exact hwt k hk
  · intro h9
    rw [p_up]
    show _ = sUp (sSn ρ) m s k
    unfold sUp
    by_cases e : k = m
    · rw [if_pos ⟨rfl, e⟩, if_pos e]
    · rw [if_neg (fun q => e q.2), if_neg e]; exact hsn k hk h9
  · rw [e0 i (by omega), e0 (i + 5) (by omega)]; exact has k hk
/-- a count of the row: the field k of the object is the count j -/
def scAt (k j : Nat) : Prop := (k = 2 ∧ j = 1) ∨ (k = 3 ∧ j = 2) ∨ (k = 4 ∧ j = 3) ∨ (k = 5 ∧ j = 4) ∨ (k = 6 ∧ j = 5)
theorem RC_sc {i : Nat} {v : zV} {ρ : sR} (h : RC i v ρ) {k j : Nat} (hk : scAt k j) (s : Nat) : RC i (zup v i k (nI s)) (rUpSc ρ (sUp (sSc ρ) j s)) := by
  obtain ⟨⟨h0, h1, h2, h3, h4, h5, h6, h7⟩, hch, hst, hwt, hsn, has⟩ := h
  have e0 : ∀ a, a ≠ i → zup v i k (nI s) a = v a := fun a ha => p_up_a v _ _ ha
  have e7 : zup v i k (nI s) i 7 = v i 7 := p_up_n v _ (Or.inr (by rcases hk with h | h | h | h | h <;> omega))
  have e00 : zup v i k (nI s) i 0 = v i 0 := p_up_n v _ (Or.inr (by rcases hk with h | h | h | h | h <;> omega))
  have hj9 : 9 ≠ j := by rcases hk with h | h | h | h | h <;> omega
  refine ⟨?_, fun k hk => ?_, fun k hk => ?_, fun k hk => ?_, fun k hk => ?_, fun k hk => ?_⟩
  · have hj : j ≠ 0 := by rcases hk with h | h | h | h | h <;> omega
    obtain ⟨y, hy, h7⟩ := h7
    have h70 : ∃ y, y ≤ sSc (rUpSc ρ (sUp (sSc ρ) j s)) 0 ∧ zup v i k (nI s) i 7 = nI y := ⟨y, by show y ≤ sUp (sSc ρ) j s 0; rw [sUp_n _ _ (Ne.symm hj)]; exact hy, by rw [e7]; exact h7⟩
    have hx : zup v i k (nI s) i 0 = nI (sUp (sSc ρ) j s 0) ∧ zup v i k (nI s) i 1 = nI (sCh ρ).length ∧ zup v i k (nI s) i 2 = nI (sUp (sSc ρ) j s 1) ∧ zup v i k (nI s) i 3 = nI (sUp (sSc ρ) j s 2) ∧ zup v i k (nI s) i 4 = nI (sUp (sSc ρ) j s 3) ∧ zup v i k (nI s) i 5 = nI (sUp (sSc ρ) j s 4) ∧ zup v i k (nI s) i 6 = nI (sUp (sSc ρ) j s 5) := by
      rcases hk with ⟨rfl, rfl⟩ | ⟨rfl, rfl⟩ | ⟨rfl, rfl⟩ | ⟨rfl, rfl⟩ | ⟨rfl, rfl⟩ <;> simp [p_up, sUp, h0, h1, h2, h3, h4, h5, h6]
    exact ⟨hx.1, hx.2.1, hx.2.2.1, hx.2.2.2.1, hx.2.2.2.2.1, hx.2.2.2.2.2.1, hx.2.2.2.2.2.2, h70⟩
  · rw [e0 (i + 1) (by omega)]; exact hch k hk
  · rw [e0 (i + 2) (by omega)]; exact hst k hk
  · rw [e0 (i + 3) (by omega)]; exact hwt k hk
  · intro h9
    have h9' : sUp (sSc ρ) j s 9 = 0 := h9
    rw [sUp_n _ _ hj9] at h9'
    rw [e0 (i + 4) (by omega)]; exact hsn k hk h9'
  · rw [e7, e00, e0 (i + 5) (by omega)]; exact has k hk
theorem p_leave {i : Nat} (hi : isRow i) {v : zV} {ρ : sR} (h : RC i v ρ) (ho : okC ρ) {c : Nat} (hc : c < (sCh ρ).length) : ∃ w, fX7_leave i (nI c) v = some w ∧ RC i w (sLeave ρ c) ∧ onlyR i v w := by
  have h13 := ho.1
  have hm : (sCh ρ).getD c 0 < 16 := by
    rw [List.getD_eq_getElem?_getD, List.getElem?_eq_getElem hc]
    exact ho.2.1 _ (List.getElem_mem hc)
  have h1 := RC_st h (m := (sCh ρ).getD c 0) 2
  have h2 := RC_sc h1 (k := 4) (j := 3) (Or.inr (Or.inr (Or.inl ⟨rfl, rfl⟩))) (sSc ρ 3 + 1)
  obtain ⟨w, hw, hr, hon⟩ := p_vacate hi h2 (ρ := rUpSc (rUpSt ρ (sUp (sSt ρ) ((sCh ρ).getD c 0) 2)) (sUp (sSc ρ) 3 (sSc ρ 3 + 1))) ⟨ho.1, ho.2.1, fun m => by
      show sUp (sSt ρ) ((sCh ρ).getD c 0) 2 m < 4
      unfold sUp
      by_cases e : m = (sCh ρ).getD c 0
      · rw [if_pos e]; omega
      · rw [if_neg e]; exact ho.2.2.1 m, by
      show sUp (sSc ρ) 3 (sSc ρ 3 + 1) 0 < 100000
      rw [sUp_n _ _ (by decide)]; exact ho.2.2.2⟩ hc
  refine ⟨w, ?_, hr, fun a ha => ?_⟩
  · obtain ⟨⟨-, hl, -, -, h4, -⟩, hch, -⟩ := h
    unfold fX7_leave
    rw [hi.1, p_get (by rw [hi.2.2.2.2.2.1]; omega)]
    show zbindv (fX9_set (zrf i 9) (v (i + 1) c) 2 v) _ = _
    rw [hch c hc, hi.2.1, p_set (by rw [hi.2.2.2.2.2.2.1]; exact hm)]
    show zbindv (fX7_vacate i (nI c) (zup (zup v (i + 2) ((sCh ρ).getD c 0) 2) i 4 (zup v (i + 2) ((sCh ρ).getD c 0) 2 i 4 + 1))) _ = _
    rw [p_up_a v (i := i + 2) (a := i) _ _ (by omega), h4, nI_1]
    rw [show (2 : Int32) = nI 2 from rfl, hw]
    rfl
  · rw [hon a ha, p_up_a _ _ _ (by omega), p_up_a _ _ _ (by omega)]
/-! a man sits down -/
theorem RC_push {i : Nat} {v : zV} {ρ : sR} (h : RC i v ρ) (m : Nat) : RC i (zup (zup v (i + 1) (sCh ρ).length (nI m)) i 1 (nI ((sCh ρ).length + 1))) (rUpCh ρ (sCh ρ ++ [m])) := by
  obtain ⟨⟨h0, h1, h2, h3, h4, h5, h6, h7⟩, hch, hst, hwt, hsn, has⟩ := h
  have hi0 : ∀ k, k ≠ 1 → zup (zup v (i + 1) (sCh ρ).length (nI m)) i 1 (nI ((sCh ρ).length + 1)) i k = v i k := fun k hk => by rw [p_up_n _ _ (Or.inr hk), p_up_a _ _ _ (by omega)]
  have hia : ∀ a, a ≠ i → a ≠ i + 1 → zup (zup v (i + 1) (sCh ρ).length (nI m)) i 1 (nI ((sCh ρ).length + 1)) a = v a := fun a h1 h2 => by rw [p_up_a _ _ _ h1, p_up_a _ _ _ h2]
  refine ⟨⟨?_, ?_, ?_, ?_, ?_, ?_, ?_, ?_⟩, fun k hk => ?_, fun m hm => ?_, fun m hm => ?_, fun m hm => ?_, fun m hm => ?_⟩
  · rw [hi0 0 (by decide)]; exact h0
  · rw [p_up_s]
    show _ = nI (sCh ρ ++ [m]).length
    rw [List.length_append]; rfl
  · rw [hi0 2 (by decide)]; exact h2
  · rw [hi0 3 (by decide)]; exact h3
  · rw [hi0 4 (by decide)]; exact h4
  · rw [hi0 5 (by decide)]; exact h5
  · rw [hi0 6 (by decide)]; exact h6
  · rw [hi0 7 (by decide)]; exact h7
  · have hk' : k < (sCh ρ).length + 1 := by
      have : k < (sCh ρ ++ [m]).length := hk
      rw [List.length_append] at this
      exact this
    rw [p_up_a _ _ _ (by omega : i + 1 ≠ i), p_up]
    show _ = nI ((sCh ρ ++ [m]).getD k 0)
    rw [List.getD_eq_getElem?_getD, List.getElem?_append]
    by_cases e : k = (sCh ρ).length
    · rw [if_pos ⟨rfl, e⟩, if_neg (by omega), e, Nat.sub_self]
      rfl
    · rw [if_neg (fun q => e q.2), if_pos (by omega), hch k (by omega), List.getD_eq_getElem?_getD]
  · rw [hia _ (by omega) (by omega)]; exact hst m hm
  · rw [hia _ (by omega) (by omega)]; exact hwt m hm
  · rw [hia _ (by omega) (by omega)]; exact hsn m hm
  · rw [hi0 7 (by decide), hi0 0 (by decide), hia _ (by omega) (by omega)]; exact has m hm
theorem p_sitDown {i : Nat} (hi : isRow i) {v : zV} {ρ : sR} (h : RC i v ρ) (hl : (sCh ρ).length < 13) {m : Nat} (hm : m < 16) (y : Nat) : ∃ w, fX7_sitDown i (nI m) (nI y) v = some w ∧ RC i w (sSit ρ m y) ∧ onlyR i v w := by
  have h1 := RC_sn (RC_st (RC_push h m) (m := m) 1) (m := m) (nI y)
  refine ⟨_, ?_, h1, fun a ha => ?_⟩
  · obtain ⟨⟨-, h1, -⟩, -⟩ := h
    obtain ⟨r8, r9, -, r11, -, l1, l2, -, l4, -⟩ := hi
    unfold fX7_sitDown
    rw [h1, r8, l1, if_neg (show ¬ Int32.ofNat 13 ≤ nI (sCh ρ).length from nI_ge hl (by decide)), p_set (by rw [l1]; exact hl)]
    show zbindv (fX9_set (zrf i 9) (nI m) 1 (zup (zup v (i + 1) (sCh ρ).length (nI m)) i 1 (zup v (i + 1) (sCh ρ).length (nI m) i 1 + 1))) _ = _
    rw [p_up_a v (i := i + 1) (a := i) _ _ (by omega), h1, nI_1, r9, p_set (by rw [l2]; exact hm)]
    show zbindv (fX9_set (zrf i 11) (nI m) (nI y) _) _ = _
    rw [r11, p_set (by rw [l4]; exact hm)]
    rfl
  · rw [p_up_a _ _ _ (by omega), p_up_a _ _ _ (by omega), p_up_a _ _ _ (by omega), p_up_a _ _ _ (by omega)]
