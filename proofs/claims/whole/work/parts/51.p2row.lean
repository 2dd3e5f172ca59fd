/-! THE ROW (what the years change), as a value: chairs, state, waits, since, counts (0 year, 1 voids, 2 entered, 3 left, 4 died, 5 asides), this year's praise aside -/
abbrev sR : Type := List Nat × (Nat → Nat) × (Nat → Nat) × (Nat → Int32) × (Nat → Nat) × (Nat → Int32)
def sCh (ρ : sR) : List Nat := ρ.1
def sSt (ρ : sR) : Nat → Nat := ρ.2.1
def sWt (ρ : sR) : Nat → Nat := ρ.2.2.1
def sSn (ρ : sR) : Nat → Int32 := ρ.2.2.2.1
def sSc (ρ : sR) : Nat → Nat := ρ.2.2.2.2.1
def sAs (ρ : sR) : Nat → Int32 := ρ.2.2.2.2.2
def sUp {α : Type} (f : Nat → α) (k : Nat) (x : α) : Nat → α := fun j => if j = k then x else f j
theorem sUp_s {α : Type} (f : Nat → α) (k : Nat) (x : α) : sUp f k x k = x := by simp [sUp]
theorem sUp_n {α : Type} (f : Nat → α) {k j : Nat} (x : α) (h : j ≠ k) : sUp f k x j = f j := by simp [sUp, h]
/-- a cell that is a Row of the class -/
def isRow (i : Nat) : Prop := zrf i 8 = i + 1 ∧ zrf i 9 = i + 2 ∧ zrf i 10 = i + 3 ∧ zrf i 11 = i + 4 ∧ zrf i 12 = i + 5 ∧ zlen (i + 1) = 13 ∧ zlen (i + 2) = 16 ∧ zlen (i + 3) = 16 ∧ zlen (i + 4) = 16 ∧ zlen (i + 5) = 16
def rowCells : List Nat := [37, 43, 53, 63, 69, 75, 81, 88, 98, 104, 110]
theorem isRow_all : ∀ i ∈ rowCells, isRow i := by
  unfold isRow
  decide +kernel
/-- the class's row at cell i holds ρ -/
def RC (i : Nat) (v : zV) (ρ : sR) : Prop :=
  (v i 0 = nI (sSc ρ 0) ∧ v i 1 = nI (sCh ρ).length ∧ v i 2 = nI (sSc ρ 1) ∧ v i 3 = nI (sSc ρ 2) ∧ v i 4 = nI (sSc ρ 3) ∧ v i 5 = nI (sSc ρ 4) ∧ v i 6 = nI (sSc ρ 5)) ∧
  (∀ c, c < (sCh ρ).length → v (i + 1) c = nI ((sCh ρ).getD c 0)) ∧ (∀ m, m < 16 → v (i + 2) m = nI (sSt ρ m)) ∧ (∀ m, m < 16 → v (i + 3) m = nI (sWt ρ m)) ∧ (∀ m, m < 16 → v (i + 4) m = sSn ρ m) ∧
  ∀ m, m < 16 → (if v i 7 = v i 0 then v (i + 5) m else 0) = sAs ρ m
/-- what a row may be -/
def okR (ρ : sR) : Prop := (sCh ρ).length ≤ 13 ∧ (∀ m ∈ sCh ρ, m < 16) ∧ (∀ m, sSt ρ m < 4) ∧ sSc ρ 0 < 100000
/-- nothing but the row's cells differs -/
def onlyR (i : Nat) (v w : zV) : Prop := ∀ a, a < i ∨ i + 5 < a → w a = v a
theorem onlyR_rf (i : Nat) (v : zV) : onlyR i v v := fun _ _ => rfl
theorem onlyR_tr {i : Nat} {v w u : zV} (h1 : onlyR i v w) (h2 : onlyR i w u) : onlyR i v u := fun a h => (h2 a h).trans (h1 a h)
theorem onlyR_up {i a : Nat} (v : zV) (k : Nat) (x : Int32) (h1 : i ≤ a) (h2 : a ≤ i + 5) : onlyR i v (zup v a k x) := fun b hb => p_up_a v k x (by omega)
theorem p_isWaiting {i : Nat} (hi : isRow i) {v : zV} {ρ : sR} (h : RC i v ρ) (ho : okR ρ) {m : Nat} (hm : m < 16) : fX7_isWaiting i (nI m) v = some (if sSt ρ m = 0 then 1 else 0, v) := by
  obtain ⟨-, -, hs, -⟩ := h
  unfold fX7_isWaiting
  rw [hi.2.1, p_get (by rw [hi.2.2.2.2.2.2.1]; exact hm)]
  show (if v (i + 2) m = 0 then some (1, v) else some (0, v)) = _
  rw [hs m hm]
  have h4 := ho.2.2.1 m
  by_cases e : sSt ρ m = 0
  · rw [e, if_pos rfl, if_pos nI_0]
  · rw [if_neg e, if_neg (nI_ne0 (by omega) (by omega))]
theorem p_isAlive {i : Nat} (hi : isRow i) {v : zV} {ρ : sR} (h : RC i v ρ) (ho : okR ρ) {m : Nat} (hm : m < 16) : fX7_isAlive i (nI m) v = some (if sSt ρ m = 3 then 0 else 1, v) := by
  obtain ⟨-, -, hs, -⟩ := h
  unfold fX7_isAlive
  rw [hi.2.1, p_get (by rw [hi.2.2.2.2.2.2.1]; exact hm)]
  show (if v (i + 2) m = nI 3 then some (nI 0, v) else some (nI 1, v)) = some (if sSt ρ m = 3 then nI 0 else nI 1, v)
  rw [hs m hm]
  have h4 := ho.2.2.1 m
  by_cases e : sSt ρ m = 3
  · rw [e, if_pos rfl, if_pos rfl]
  · rw [if_neg e, if_neg (fun q => e ((nI_eq (by omega) (by omega)).mp (show nI (sSt ρ m) = nI 3 from q)))]
theorem p_onChair {i : Nat} (hi : isRow i) {v : zV} {ρ : sR} (h : RC i v ρ) (ho : okR ρ) {c : Nat} (hc : c < (sCh ρ).length) : fX7_onChair i (nI c) v = some (nI ((sCh ρ).getD c 0), v) := by
  obtain ⟨⟨-, hl, -⟩, hch, -⟩ := h
  have h13 := ho.1
  unfold fX7_onChair
  rw [if_neg (nI_pos (by omega)), hl, if_neg (nI_ge hc (by omega)), hi.1, p_get (by rw [hi.2.2.2.2.2.1]; omega)]
  show some (v (i + 1) c, v) = _
  rw [hch c hc]
theorem p_onChairN {i : Nat} {v : zV} {ρ : sR} (h : RC i v ρ) (ho : okR ρ) {x : Int32} (hx : x < 0 ∨ nI (sCh ρ).length ≤ x) : fX7_onChair i x v = some (-1, v) := by
  obtain ⟨⟨-, hl, -⟩, -⟩ := h
  unfold fX7_onChair
  by_cases h0 : x < 0
  · rw [if_pos h0]
  · rw [if_neg h0, hl, if_pos (hx.resolve_left h0)]
def sLast (ρ : sR) : Int32 := match (sCh ρ).getLast? with
  | none => -1
  | some m => nI m
theorem p_last {i : Nat} (hi : isRow i) {v : zV} {ρ : sR} (h : RC i v ρ) (ho : okR ρ) : fX7_last i v = some (sLast ρ, v) := by
  obtain ⟨⟨-, hl, -⟩, hch, -⟩ := h
  have h13 := ho.1
  unfold fX7_last sLast
  rw [hl]
  rcases Nat.eq_zero_or_pos (sCh ρ).length with h0 | h0
  · rw [h0, if_pos (by decide)]
    rw [List.length_eq_zero_iff.mp h0]
    rfl
  · rw [if_neg (nI_nle h0 (by omega)), hi.1]
    have e : nI (sCh ρ).length - 1 = nI ((sCh ρ).length - 1) := pk_sub (b := 1) h0
    rw [e, p_get (by rw [hi.2.2.2.2.2.1]; omega)]
    show some (v (i + 1) ((sCh ρ).length - 1), v) = _
    rw [hch _ (by omega), List.getLast?_eq_getElem?, List.getD_eq_getElem?_getD, List.getElem?_eq_getElem (by omega)]
    rfl
/-- the chair of a man, from chair j on -/
def sFind (l : List Nat) (m : Nat) (j : Nat) : Int32 := match (l.drop j).findIdx? (fun x => x == m) with
  | none => -1
  | some k => nI (j + k)
theorem p_chairOfL {i : Nat} (hi : isRow i) {v : zV} {ρ : sR} (h : RC i v ρ) (ho : okR ρ) {m : Nat} (hm : m < 16) : ∀ (d n j : Nat), d = (sCh ρ).length - j → j ≤ (sCh ρ).length → d < n → fX7_chairOf_2 n i (nI m) (nI j) v = some (sFind (sCh ρ) m j, v) := by
  obtain ⟨⟨-, hl, -⟩, hch, -⟩ := h
  have h13 := ho.1
  intro d
  induction d with
  | zero =>
    intro n j hd hj hn
    obtain ⟨n, rfl⟩ : ∃ k, n = k + 1 := ⟨n - 1, by omega⟩
    have e : j = (sCh ρ).length := by omega
    rw [fX7_chairOf_2]
    dsimp only
    rw [hl, if_pos (by rw [e]; exact Int32.le_refl _)]
    unfold sFind
    rw [e, List.drop_length]
    rfl
  | succ d ih =>
    intro n j hd hj hn
    obtain ⟨n, rfl⟩ : ∃ k, n = k + 1 := ⟨n - 1, by omega⟩
    have hjl : j < (sCh ρ).length := by omega
    rw [fX7_chairOf_2]
    dsimp only
    rw [hl, if_neg (nI_ge hjl (by omega)), hi.1, p_get (by rw [hi.2.2.2.2.2.1]; omega)]
    show (if v (i + 1) j = nI m then some (nI j, v) else fX7_chairOf_2 n i (nI m) (nI j + 1) v) = _
    rw [hch j hjl, List.getD_eq_getElem?_getD, List.getElem?_eq_getElem hjl]
    have hm9 : (sCh ρ)[j] < 16 := ho.2.1 _ (List.getElem_mem hjl)
    have hdr : (sCh ρ).drop j = (sCh ρ)[j] :: (sCh ρ).drop (j + 1) := List.drop_eq_getElem_cons hjl
    unfold sFind
    rw [hdr, List.findIdx?_cons]
    by_cases e : (sCh ρ)[j] = m
    · rw [Option.getD_some, e, if_pos rfl]
      simp
    · rw [Option.getD_some, if_neg (fun q => e ((nI_eq (by omega) (by omega)).mp q)), nI_1, ih n (j + 1) (by omega) (by omega) (by omega)]
      unfold sFind
      have e2 : ((sCh ρ)[j] == m) = false := by simp [e]
      rw [e2]
      cases hf : ((sCh ρ).drop (j + 1)).findIdx? (fun x => x == m) with
      | none => rfl
      | some k =>
        simp only [Option.map_some, Bool.false_eq_true, if_false]
        rw [show j + 1 + k = j + (k + 1) by omega]
theorem p_chairOf {i : Nat} (hi : isRow i) {v : zV} {ρ : sR} (h : RC i v ρ) (ho : okR ρ) {m : Nat} (hm : m < 16) : fX7_chairOf i (nI m) v = some (sFind (sCh ρ) m 0, v) := by
  have h13 := ho.1
  unfold fX7_chairOf
  exact p_chairOfL hi h ho hm _ zFU 0 rfl (Nat.zero_le _) (by unfold zFU; omega)
