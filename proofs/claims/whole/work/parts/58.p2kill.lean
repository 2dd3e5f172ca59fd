/-! what a row may be stays so -/
section
theorem sLeave_sc (ρ : sR) (c : Nat) {k : Nat} (h : k ≠ 3) : sSc (sLeave ρ c) k = sSc ρ k := sUp_n (sSc ρ) (k := 3) (j := k) (sSc ρ 3 + 1) h
theorem sLeave_sc3 (ρ : sR) (c : Nat) : sSc (sLeave ρ c) 3 = sSc ρ 3 + 1 := sUp_s (sSc ρ) 3 (sSc ρ 3 + 1)
theorem sDead_sc (ρ : sR) (m : Nat) {k : Nat} (h : k ≠ 4) : sSc (sDead ρ m) k = sSc ρ k := sUp_n (sSc ρ) (k := 4) (j := k) (sSc ρ 4 + 1) h
theorem sGap_sc (ρ : sR) (m c : Nat) {k : Nat} (h : k ≠ 4) : sSc (sGap (sDead ρ m) c) k = sSc ρ k := sUp_n (sSc ρ) (k := 4) (j := k) (sSc ρ 4 + 1) h
theorem mem_er {l : List Nat} (hd : l.Nodup) {c : Nat} (hc : c < l.length) (y : Nat) : y ∈ l.eraseIdx c ↔ y ∈ l ∧ y ≠ l.getD c 0 := by
  have hg : l.getD c 0 = l[c] := by rw [List.getD_eq_getElem?_getD, List.getElem?_eq_getElem hc]; rfl
  rw [hg, List.mem_eraseIdx_iff_getElem]
  constructor
  · rintro ⟨j, hj, hjc, rfl⟩
    refine ⟨List.getElem_mem hj, fun e => hjc ?_⟩
    exact (List.getElem_inj hd).mp e
  · rintro ⟨hm, hne⟩
    obtain ⟨j, hj, rfl⟩ := List.getElem_of_mem hm
    exact ⟨j, hj, fun e => hne (by subst e; rfl), rfl⟩
theorem okB_out {α : sA} {n b : Nat} {ρ : sR} (h : okB α n b ρ) {c s : Nat} (hc : c < (sCh ρ).length) (hs : s = 2 ∨ s = 3) (f : Nat → Nat) (h0 : f 0 = sSc ρ 0) (h5 : f 5 = sSc ρ 5) : okB α n b (rUpCh (rUpSc (rUpSt ρ (sUp (sSt ρ) ((sCh ρ).getD c 0) s)) f) ((sCh ρ).eraseIdx c)) := by
  obtain ⟨hn, hd, hst, h4, hM, hy, hw, hsn, hu, ha⟩ := h
  have hx : sSt ρ ((sCh ρ).getD c 0) = 1 := (hst _).mpr (getD_mem hc)
  refine ⟨?_, ?_, fun m => ?_, fun m => ?_, fun m hm => ?_, ?_, fun m hm => ?_, hsn, hu, ?_⟩
  · show ((sCh ρ).eraseIdx c).length ≤ n
    rw [List.length_eraseIdx, if_pos hc]
    omega
  · exact List.Pairwise.sublist (List.eraseIdx_sublist _ _) hd
  · show sUp (sSt ρ) ((sCh ρ).getD c 0) s m = 1 ↔ m ∈ (sCh ρ).eraseIdx c
    rw [mem_er hd hc, sUp_if]
    by_cases e : m = (sCh ρ).getD c 0
    · rw [if_pos e]
      exact ⟨fun q => by omega, fun q => absurd e q.2⟩
    · rw [if_neg e, hst m]
      exact ⟨fun q => ⟨q, e⟩, fun q => q.1⟩
  · show sUp (sSt ρ) ((sCh ρ).getD c 0) s m < 4
    rw [sUp_if]
    split
    · omega
    · exact h4 m
  · show sUp (sSt ρ) ((sCh ρ).getD c 0) s m = 0 ∧ _
    obtain ⟨g1, g2⟩ := hM m hm
    rw [sUp_n _ _ (fun e => by rw [← e] at hx; omega)]
    exact ⟨g1, g2⟩
  · show 1 ≤ f 0 ∧ f 0 < 1000
    rw [h0]; exact hy
  · have hm' : sUp (sSt ρ) ((sCh ρ).getD c 0) s m = 0 := hm
    rw [sUp_if] at hm'
    split at hm'
    · omega
    · exact hw m hm'
  · show f 5 ≤ 12
    rw [h5]; exact ha
theorem okB_leave {α : sA} {n b : Nat} {ρ : sR} (h : okB α n b ρ) {c : Nat} (hc : c < (sCh ρ).length) : okB α n b (sLeave ρ c) := okB_out h hc (Or.inl rfl) _ (sUp_n _ _ (by decide)) (sUp_n _ _ (by decide))
theorem sFall_sc (α : sA) (c : Nat) {k : Nat} (hk : k ≠ 3) : ∀ (d : Nat) (ρ : sR), sSc (sFall α c d ρ) k = sSc ρ k := by
  intro d
  induction d with
  | zero => intro ρ; rfl
  | succ d ih =>
    intro ρ
    rw [sFall]
    split
    · rw [ih]
      exact sLeave_sc ρ c hk
    · rfl
theorem sFall_mono (α : sA) (c : Nat) : ∀ (d : Nat) (ρ : sR), sSc ρ 3 ≤ sSc (sFall α c d ρ) 3 := by
  intro d
  induction d with
  | zero => intro ρ; exact Nat.le_refl _
  | succ d ih =>
    intro ρ
    rw [sFall]
    split
    · have h1 := ih (sLeave ρ c)
      have h2 : sSc (sLeave ρ c) 3 = sSc ρ 3 + 1 := sLeave_sc3 ρ c
      omega
    · exact Nat.le_refl _
theorem okB_fall {α : sA} {n b : Nat} (c : Nat) : ∀ (d : Nat) (ρ : sR), okB α n b ρ → okB α n b (sFall α c d ρ) := by
  intro d
  induction d with
  | zero => intro ρ h; exact h
  | succ d ih =>
    intro ρ h
    rw [sFall]
    split
    · rename_i e
      exact ih _ (okB_leave h e.2.1)
    · exact h
theorem sIx_some {l : List Nat} {m c : Nat} (h : sIx l m = some c) : c < l.length ∧ l.getD c 0 = m := by
  unfold sIx at h
  rw [List.findIdx?_eq_some_iff_getElem] at h
  obtain ⟨hc, h1, -⟩ := h
  refine ⟨hc, ?_⟩
  rw [List.getD_eq_getElem?_getD, List.getElem?_eq_getElem hc]
  simpa using h1
theorem sIx_none {l : List Nat} {m : Nat} (h : sIx l m = none) : m ∉ l := by
  unfold sIx at h
  rw [List.findIdx?_eq_none_iff] at h
  intro hm
  have := h m hm
  simp at this
theorem okB_gap {α : sA} {n b : Nat} {ρ : sR} (h : okB α n b ρ) {m c : Nat} (hx : sIx (sCh ρ) m = some c) : okB α n b (sGap (sDead ρ m) c) := by
  obtain ⟨hc, hm⟩ := sIx_some hx
  have := okB_out h hc (s := 3) (Or.inr rfl) (sUp (sSc ρ) 4 (sSc ρ 4 + 1)) (sUp_n _ _ (by decide)) (sUp_n _ _ (by decide))
  rw [hm] at this
  exact this
theorem okB_dead {α : sA} {n b : Nat} {ρ : sR} (h : okB α n b ρ) {m : Nat} (hm : m < α 0 1) (hx : sIx (sCh ρ) m = none) : okB α n b (sDead ρ m) := by
  have hnm := sIx_none hx
  obtain ⟨hn, hd, hst, h4, hM, hy, hw, hsn, hu, ha⟩ := h
  refine ⟨hn, hd, fun k => ?_, fun k => ?_, fun k hk => ?_, ?_, fun k hk => ?_, hsn, hu, ?_⟩
  · show sUp (sSt ρ) m 3 k = 1 ↔ k ∈ sCh ρ
    rw [sUp_if]
    by_cases e : k = m
    · rw [if_pos e]
      exact ⟨fun q => by omega, fun q => absurd (e ▸ q) hnm⟩
    · rw [if_neg e]; exact hst k
  · show sUp (sSt ρ) m 3 k < 4
    rw [sUp_if]
    split
    · omega
    · exact h4 k
  · show sUp (sSt ρ) m 3 k = 0 ∧ _
    rw [sUp_n _ _ (by omega)]
    exact hM k hk
  · show 1 ≤ sUp (sSc ρ) 4 (sSc ρ 4 + 1) 0 ∧ sUp (sSc ρ) 4 (sSc ρ 4 + 1) 0 < 1000
    rw [sUp_n _ _ (by decide)]; exact hy
  · have hk' : sUp (sSt ρ) m 3 k = 0 := hk
    rw [sUp_if] at hk'
    split at hk'
    · omega
    · exact hw k hk'
  · show sUp (sSc ρ) 4 (sSc ρ 4 + 1) 5 ≤ 12
    rw [sUp_n _ _ (by decide)]; exact ha
theorem okB_kill {α : sA} {n b : Nat} {ρ : sR} (h : okB α n b ρ) {m : Nat} (hm : m < α 0 1) : okB α n b (sKill α ρ m) := by
  unfold sKill
  split
  · exact h
  · cases hx : sIx (sCh ρ) m with
    | none => exact okB_dead h hm hx
    | some c => exact okB_fall c 13 _ (okB_gap h hx)
theorem sKill_sc (α : sA) (ρ : sR) (m : Nat) {k : Nat} (h3 : k ≠ 3) (h4 : k ≠ 4) : sSc (sKill α ρ m) k = sSc ρ k := by
  unfold sKill
  split
  · rfl
  · cases sIx (sCh ρ) m with
    | none => exact sDead_sc ρ m h4
    | some c =>
      show sSc (sFall α c 13 (sGap (sDead ρ m) c)) k = _
      rw [sFall_sc α c h3]
      exact sGap_sc ρ m c h4
theorem okW_kill {α : sA} {n : Nat} {ρ : sR} (h : okW α n ρ) {m : Nat} (hm : m < α 0 1) : okW α n (sKill α ρ m) := by
  unfold okW
  rw [sKill_sc α ρ m (by decide) (by decide)]
  exact okB_kill h hm
theorem sTell_ok {α : sA} (ha : okA α) {n : Nat} {ρ : sR} (h : okW α n ρ) : okW α n (sTell α ρ) ∧ sSc (sTell α ρ) 0 = sSc ρ 0 := by
  unfold sTell
  refine zit_inv (fun _ ρ1 => okW α n ρ1 ∧ sSc ρ1 0 = sSc ρ 0) (α 0 4) (fun j s hj hs => ?_) (α 0 4) 0 ρ (Nat.zero_add _) ⟨h, rfl⟩
  show okW α n (if α (30 + j) 0 = sSc s 0 then sKill α s (α (30 + j) 1) else s) ∧ sSc (if α (30 + j) 0 = sSc s 0 then sKill α s (α (30 + j) 1) else s) 0 = sSc ρ 0
  split
  · refine ⟨okW_kill hs.1 (ha.2.2.2.2.2.2.1 j hj).2.2, ?_⟩
    rw [sKill_sc α s _ (by decide) (by decide)]
    exact hs.2
  · exact hs
theorem sEld_ok {α : sA} {ρ : sR} {m : Nat} (h : sEld α ρ = some m) : m < α 0 1 ∧ sSt ρ m = 0 := by
  have := zit_inv (g := sEldS α ρ) (fun _ e => ∀ m, e = some m → m < α 0 1 ∧ sSt ρ m = 0) (α 0 1) (fun j s hj hs m hm => by
    unfold sEldS at hm
    split at hm
    · rename_i hc
      cases hm
      exact ⟨hj, hc.1⟩
    · exact hs m hm) (α 0 1) 0 none (Nat.zero_add _) (fun m hm => by cases hm)
  exact this m h
theorem sGre_ok {α : sA} {ρ : sR} {sc : Nat → Int32} {m : Nat} (h : sGre α ρ sc = some m) : m < α 0 1 ∧ sSt ρ m = 0 := by
  have := zit_inv (g := sGreS ρ sc) (fun _ e => ∀ m, e.1 = some m → m < α 0 1 ∧ sSt ρ m = 0) (α 0 1) (fun j s hj hs m hm => by
    unfold sGreS at hm
    split at hm
    · exact hs m hm
    · rename_i hc
      split at hm
      · have hm' : (if sc j ≤ s.2 then none else some j) = some m := hm
        split at hm'
        · cases hm'
        · cases hm'
          exact ⟨hj, Decidable.not_not.mp hc⟩
      · exact hs m hm) (α 0 1) 0 (none, 0) (Nat.zero_add _) (fun m hm => by cases hm)
  exact this m h
theorem sChoose_ok {α : sA} {ρ : sR} {sc : Nat → Int32} {m : Nat} (h : sChoose α ρ sc = some m) : m < α 0 1 ∧ sSt ρ m = 0 := by
  unfold sChoose at h
  split at h
  · exact sEld_ok h
  · exact sGre_ok h
theorem okB_take {α : sA} {n : Nat} {ρ : sR} (h : okW α n ρ) {o : Option Nat} (hoo : ∀ m, o = some m → m < α 0 1 ∧ sSt ρ m = 0) : okB α (n + 1) (sSc ρ 0 + 1) (sTake ρ o) := by
  obtain ⟨hn, hd, hst, h4, hM, hy, hw, hsn, hu, ha⟩ := h
  cases o with
  | none =>
    refine ⟨Nat.le_succ_of_le hn, hd, hst, h4, hM, ?_, hw, fun m => ?_, fun m k y h1 h2 h3 h4 => ?_, ?_⟩
    · show 1 ≤ sUp (sSc ρ) 1 (sSc ρ 1 + 1) 0 ∧ sUp (sSc ρ) 1 (sSc ρ 1 + 1) 0 < 1000
      rw [sUp_n _ _ (by decide)]; exact hy
    · rcases hsn m with h | ⟨y, h1, h2⟩
      · exact Or.inl h
      · exact Or.inr ⟨y, by omega, h2⟩
    · have h3' : sSn ρ m = nI y := h3
      have h4' : sSn ρ k = nI y := h4
      rcases hsn m with h | ⟨z, g1, g2⟩
      · rw [h] at h3'
        exact absurd h3' (fun q => by rw [show (-1 : Int32) = -nI 1 from rfl, ng_eq2 (by omega) (by decide) (by decide)] at q; exact q)
      · rw [g2] at h3'
        have := (nI_eq (by omega) (by omega)).mp h3'
        exact hu m k y h1 (by omega) (by rw [g2, this]) h4'
    · show sUp (sSc ρ) 1 (sSc ρ 1 + 1) 5 ≤ 12
      rw [sUp_n _ _ (by decide)]; exact ha
  | some x =>
    obtain ⟨hx, hx0⟩ := hoo x rfl
    have hxn : x ∉ sCh ρ := fun q => by have := (hst x).mpr q; omega
    have hlt : ∀ m, m ≠ x → ∀ z, sSn ρ m = nI z → z < 2 ^ 31 → z < sSc ρ 0 := by
      intro m hmx z hz hz31
      rcases hsn m with h | ⟨y, h1, h2⟩
      · rw [h] at hz
        exact absurd hz (fun q => by rw [show (-1 : Int32) = -nI 1 from rfl, ng_eq2 hz31 (by decide) (by decide)] at q; exact q)
      · rw [h2] at hz
        have := (nI_eq (by omega) hz31).mp hz
        omega
    refine ⟨?_, ?_, fun m => ?_, fun m => ?_, fun m hm => ?_, ?_, fun m hm => ?_, fun m => ?_, fun m k y h1 h2 h3 h4 => ?_, ?_⟩
    · show (sCh ρ ++ [x]).length ≤ n + 1
      rw [List.length_append]
      exact Nat.succ_le_succ hn
    · show (sCh ρ ++ [x]).Nodup
      rw [List.nodup_append]
      refine ⟨hd, List.pairwise_singleton _ _, fun a ha b hb => ?_⟩
      rw [List.mem_singleton] at hb
      intro e
      rw [hb] at e
      exact hxn (e ▸ ha)
    · show sUp (sSt ρ) x 1 m = 1 ↔ m ∈ sCh ρ ++ [x]
      rw [List.mem_append, List.mem_singleton, sUp_if]
      by_cases e : m = x
      · rw [if_pos e]
        exact ⟨fun _ => Or.inr e, fun _ => rfl⟩
      · rw [if_neg e, hst m]
        exact ⟨fun q => Or.inl q, fun q => q.resolve_right e⟩
    · show sUp (sSt ρ) x 1 m < 4
      rw [sUp_if]
      split
      · omega
      · exact h4 m
    · show sUp (sSt ρ) x 1 m = 0 ∧ sUp (sSn ρ) x (nI (sSc ρ 0)) m = -1
      rw [sUp_n _ _ (by omega), sUp_n _ _ (by omega)]
      exact hM m hm
    · show 1 ≤ sUp (sSc ρ) 2 (sSc ρ 2 + 1) 0 ∧ sUp (sSc ρ) 2 (sSc ρ 2 + 1) 0 < 1000
      rw [sUp_n _ _ (by decide)]; exact hy
    · show sUp (sSn ρ) x (nI (sSc ρ 0)) m = -1
      have hm' : sUp (sSt ρ) x 1 m = 0 := hm
      rw [sUp_if] at hm'
      split at hm'
      · omega
      · rename_i e
        rw [sUp_n _ _ e]
        exact hw m hm'
    · show sUp (sSn ρ) x (nI (sSc ρ 0)) m = -1 ∨ ∃ y, y < sSc ρ 0 + 1 ∧ sUp (sSn ρ) x (nI (sSc ρ 0)) m = nI y
      rw [sUp_if]
      by_cases e : m = x
      · rw [if_pos e]
        exact Or.inr ⟨sSc ρ 0, Nat.lt_succ_self _, rfl⟩
      · rw [if_neg e]
        rcases hsn m with h | ⟨y, h1, h2⟩
        · exact Or.inl h
        · exact Or.inr ⟨y, by omega, h2⟩
    · have h3' : sUp (sSn ρ) x (nI (sSc ρ 0)) m = nI y := h3
      have h4' : sUp (sSn ρ) x (nI (sSc ρ 0)) k = nI y := h4
      rw [sUp_if] at h3' h4'
      by_cases e1 : m = x
      · by_cases e2 : k = x
        · rw [e1, e2]
        · rw [if_pos e1] at h3'
          rw [if_neg e2] at h4'
          have g1 := (nI_eq (by omega) (by omega)).mp h3'
          have g2 := hlt k e2 y h4' (by omega)
          omega
      · by_cases e2 : k = x
        · rw [if_neg e1] at h3'
          rw [if_pos e2] at h4'
          have g1 := (nI_eq (by omega) (by omega)).mp h4'
          have g2 := hlt m e1 y h3' (by omega)
          omega
        · rw [if_neg e1] at h3'
          rw [if_neg e2] at h4'
          have g2 := hlt m e1 y h3' (by omega)
          exact hu m k y h1 g2 h3' h4'
    · show sUp (sSc ρ) 2 (sSc ρ 2 + 1) 5 ≤ 12
      rw [sUp_n _ _ (by decide)]; exact ha
theorem sTake_year (ρ : sR) (o : Option Nat) : sSc (sTake ρ o) 0 = sSc ρ 0 := by
  cases o with
  | none => exact sUp_n (sSc ρ) (k := 1) (j := 0) (sSc ρ 1 + 1) (by decide)
  | some m => exact sUp_n (sSc ρ) (k := 2) (j := 0) (sSc ρ 2 + 1) (by decide)
theorem okB_full {α : sA} (ha : okA α) {b : Nat} {ρ : sR} (h : okB α (α 0 2 + 1) b ρ) : okB α (α 0 2) b (sFull α ρ) := by
  unfold sFull
  split
  · rename_i hc
    have h1 := okB_leave h (c := 0) (by omega)
    refine ⟨?_, h1.2⟩
    show ((sCh ρ).eraseIdx 0).length ≤ α 0 2
    rw [List.length_eraseIdx, if_pos (by omega)]
    have := h.1
    omega
  · rename_i hc
    exact ⟨by omega, h.2⟩
theorem sFull_year (α : sA) (ρ : sR) : sSc (sFull α ρ) 0 = sSc ρ 0 := by
  unfold sFull
  split
  · exact sLeave_sc ρ 0 (by decide)
  · rfl
theorem okW_age {α : sA} {n : Nat} {ρ : sR} (h : okB α n (sSc ρ 0 + 1) ρ) (hy : sSc ρ 0 < 900) : okW α n (sAge α ρ) ∧ sSc (sAge α ρ) 0 = sSc ρ 0 + 1 := by
  have e : sSc (sAge α ρ) 0 = sSc ρ 0 + 1 := sUp_s (sSc ρ) 0 (sSc ρ 0 + 1)
  refine ⟨?_, e⟩
  unfold okW
  rw [e]
  obtain ⟨hn, hd, hst, h4, hM, hy, hw, hsn, hu, ha⟩ := h
  refine ⟨hn, hd, hst, h4, hM, ?_, hw, hsn, hu, ?_⟩
  · rw [e]; omega
  · show sUp (sSc ρ) 0 (sSc ρ 0 + 1) 5 ≤ 12
    rw [sUp_n _ _ (by decide)]; exact ha
theorem okR_after {α : sA} (ha : okA α) {ρ : sR} (h : okR α ρ) (hy : sSc ρ 0 < 900) {o : Option Nat} (hoo : ∀ m, o = some m → m < α 0 1 ∧ sSt ρ m = 0) : okR α (sAfter α ρ o) ∧ sSc (sAfter α ρ o) 0 = sSc ρ 0 + 1 := by
  have h1 := okB_full ha (okB_take h hoo)
  have e : sSc (sFull α (sTake ρ o)) 0 = sSc ρ 0 := (sFull_year _ _).trans (sTake_year _ _)
  have h2 := okW_age (ρ := sFull α (sTake ρ o)) (by rw [e]; exact h1) (by rw [e]; exact hy)
  rw [e] at h2
  exact h2
theorem okR_pass {α : sA} {l : sL} (ha : okA α) {ρ : sR} (h : okR α ρ) (hy : sSc ρ 0 < 900) : okR α (sPass α l ρ).2 ∧ sSc (sPass α l ρ).2 0 = sSc ρ 0 + 1 := by
  obtain ⟨h1, h2⟩ := sTell_ok ha h
  have := okR_after ha h1 (by rw [h2]; exact hy) (o := sChoose α (sTell α ρ) (sScore α l (sTell α ρ))) (fun m hm => sChoose_ok hm)
  rw [h2] at this
  exact this
theorem okR_go {α : sA} {l : sL} (ha : okA α) : ∀ (n : Nat) {ρ : sR}, okR α ρ → sSc ρ 0 + n < 900 → okR α (sGo α l n ρ) ∧ sSc (sGo α l n ρ) 0 = sSc ρ 0 + n := by
  intro n
  induction n with
  | zero => intro ρ h _; exact ⟨h, rfl⟩
  | succ n ih =>
    intro ρ h hy
    obtain ⟨h1, h2⟩ := okR_pass (l := l) ha h (by omega)
    obtain ⟨h3, h4⟩ := ih h1 (by omega)
    refine ⟨h3, ?_⟩
    show sSc (sGo α l n (sPass α l ρ).2) 0 = _
    omega
end
