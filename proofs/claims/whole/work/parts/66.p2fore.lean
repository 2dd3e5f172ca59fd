/-! the class: the years ahead -/
section
/-- what the class keeps -/
def frC (v w : zV) : Prop := ∀ a, a ≠ 25 → a ≠ 26 → (a < 51 ∨ 97 < a) → w a = v a
theorem frC_rf (v : zV) : frC v v := fun _ _ _ _ => rfl
theorem frC_tr {v w u : zV} (h1 : frC v w) (h2 : frC w u) : frC v u := fun a g1 g2 g3 => (h2 a g1 g2 g3).trans (h1 a g1 g2 g3)
theorem frC_R {i : Nat} (h51 : 51 ≤ i) (h92 : i ≤ 92) {v w : zV} (h : onlyR i v w) : frC v w := fun a _ _ g3 => h a (by omega)
theorem frC_C {i : Nat} (h51 : 51 ≤ i) (h92 : i ≤ 92) {v w : zV} (h : onlyC i v w) : frC v w := fun a g1 g2 g3 => h a (by omega) g1 g2 (by omega)
theorem frC_F {v w : zV} (h : onlyF v w) : frC v w := fun a _ _ g3 => h a (by omega) (by omega)
theorem frC_s {v w : zV} (h : ∀ a, a ≠ 25 → a ≠ 26 → w a = v a) : frC v w := fun a g1 g2 _ => h a g1 g2
theorem frC_s51 {v w : zV} (h : ∀ a, a ≠ 25 → a ≠ 26 → a ≠ 51 → w a = v a) : frC v w := fun a g1 g2 g3 => h a g1 g2 (by omega)
theorem frC_up {v : zV} {a : Nat} (k : Nat) (x : Int32) (h : 51 ≤ a) (h2 : a ≤ 97) : frC v (zup v a k x) := fun b _ _ g3 => p_up_a v k x (by omega)
/-- what a question asks of: the class's academy, law, row -/
def CQ (v : zV) (α : sA) (l : sL) (ρ : sR) : Prop := CE v α l ∧ RC 37 v ρ
theorem CE_f {v w : zV} {α : sA} {l : sL} (h : CE v α l) (e : frC v w) : CE w α l := ⟨CA_fr h.1 (fun a g1 g2 => e a (by omega) (by omega) (by omega)), CL_fr h.2 (e 23 (by decide) (by decide) (by decide)) (e 24 (by decide) (by decide) (by decide))⟩
theorem CQ_f {v w : zV} {α : sA} {l : sL} {ρ : sR} (h : CQ v α l ρ) (e : frC v w) : CQ w α l ρ := ⟨CE_f h.1 e, RC_fr h.2 (fun a g1 g2 => e a (by omega) (by omega) (by omega))⟩
def OKs (α : sA) (l : sL) (ρ : sR) : Prop := okA α ∧ okL l ∧ okR α ρ ∧ sSc ρ 0 ≤ 200
theorem r37 : rowAt 37 := ⟨isRow_all 37 (by decide), by decide, by decide⟩
theorem r53 : rowAt 53 := ⟨isRow_all 53 (by decide), by decide, by decide⟩
theorem ok_13 {α : sA} (h : okA α) : α 0 2 ≤ 13 := by have := h.1.2.2.2.1; omega
/-- the trial row in its course -/
def TR (v0 : zV) (α : sA) (l : sL) (w : zV) (ρ : sR) : Prop := CE w α l ∧ RC 53 w ρ ∧ okR α ρ ∧ frC v0 w
theorem p_trial {v : zV} {α : sA} {l : sL} {ρ : sR} (h : CQ v α l ρ) (ho : OKs α l ρ) : ∃ w, fX7_copy 53 37 v = some w ∧ TR v α l w ρ := by
  have hoC := okW_C ho.1 (ok_13 ho.1) ho.2.2.1
  obtain ⟨w, hw, hr, hon⟩ := p_rowCopy (i := 53) (j := 37) r53.1 r37.1 (by decide) h.2 hoC.1
  have hf : frC v w := frC_R (by decide) (by decide) hon
  exact ⟨w, hw, CE_f h.1 hf, hr, ho.2.2.1, hf⟩
theorem p_passT {v0 w : zV} {α : sA} {l : sL} {ρ : sR} (ha : okA α) (hl : okL l) (h : TR v0 α l w ρ) (hy : sSc ρ 0 < 900) : ∃ u, fX2_pass 50 53 w = some (oI (sPass α l ρ).1, u) ∧ TR v0 α l u (sPass α l ρ).2 ∧ sSc (sPass α l ρ).2 0 = sSc ρ 0 + 1 := by
  obtain ⟨u, hu, hr, hon⟩ := p_pass r53 ha hl h.1 h.2.1 h.2.2.1
  have hf := frC_C (i := 53) (by decide) (by decide) hon
  obtain ⟨h1, h2⟩ := okR_pass (l := l) ha h.2.2.1 hy
  exact ⟨u, hu, ⟨CE_f h.1 hf, hr, h1, frC_tr h.2.2.2 hf⟩, h2⟩
theorem p_next {v : zV} {α : sA} {l : sL} {ρ : sR} (h : CQ v α l ρ) (ho : OKs α l ρ) : ∃ w, fX4_nextTaken 52 v = some (oI (sPass α l ρ).1, w) ∧ frC v w := by
  obtain ⟨w, hw, hT⟩ := p_trial h ho
  obtain ⟨u, hu, hT2, -⟩ := p_passT ho.1 ho.2.1 hT (by have := ho.2.2.2; omega)
  refine ⟨u, ?_, hT2.2.2.2⟩
  unfold fX4_nextTaken
  rw [rf_52_3, rf_52_2, rf_52_1, hw, zbindv_some, hu]
  rfl
/-- what is told of a row some years on -/
def sAhead (ρ0 ρ : sR) (what : Nat) : Int32 := if what = 0 then oI (sLastO ρ) else if what = 1 then nI (sCh ρ).length else nI (sSc ρ 1) - nI (sSc ρ0 1)
theorem p_aheadL {v0 : zV} {α : sA} {l : sL} {ρ0 : sR} (ha : okA α) (hl : okL l) (h0 : CQ v0 α l ρ0) (y what : Nat) (hy60 : y ≤ 60) (hwh : what ≤ 2) : ∀ (d n j : Nat) (ρ : sR) (w : zV), j + d = y → d < n → TR v0 α l w ρ → sSc ρ 0 + d < 900 → ∃ u, fX4_behind_13 n 52 (nI y) (nI what) (nI j) w = some (sAhead ρ0 (sGo α l d ρ) what, u) ∧ frC v0 u := by
  intro d
  induction d with
  | zero =>
    intro n j ρ w hj hn hT hyr
    obtain ⟨n, rfl⟩ : ∃ k, n = k + 1 := ⟨n - 1, by omega⟩
    obtain rfl : j = y := by omega
    refine ⟨w, ?_, hT.2.2.2⟩
    have hoC := okW_C ha (ok_13 ha) hT.2.2.1
    rw [fX4_behind_13]
    dsimp only
    rw [if_pos (Int32.le_refl _)]
    unfold fX4_behind_36 sAhead
    rw [rf_52_3, rf_52_2, p_last r53.1 hT.2.1 hoC]
    simp (disch := omega) only [i_0, i_1, nI_eq', sGo]
    by_cases c0 : what = 0
    · rw [if_pos c0, if_pos c0]
      rfl
    · rw [if_neg c0, if_neg c0]
      by_cases c1 : what = 1
      · rw [if_pos c1, if_pos c1, hT.2.1.1.2.1]
      · have h37 := (CQ_f h0 hT.2.2.2).2.1.2.2.1
        rw [if_neg c1, if_neg c1, hT.2.1.1.2.2.1, h37]
  | succ d ih =>
    intro n j ρ w hj hn hT hyr
    obtain ⟨n, rfl⟩ : ∃ k, n = k + 1 := ⟨n - 1, by omega⟩
    obtain ⟨u, hu, hT2, hy2⟩ := p_passT ha hl hT (by omega)
    obtain ⟨x, hx, hxf⟩ := ih n (j + 1) (sPass α l ρ).2 u (by omega) (by omega) hT2 (by omega)
    refine ⟨x, ?_, hxf⟩
    rw [fX4_behind_13]
    dsimp only
    rw [if_neg (nI_ge (by omega) (by omega)), rf_52_1, rf_52_3, hu, zbind_some, nI_1, hx]
    rfl
theorem p_ahead {v : zV} {α : sA} {l : sL} {ρ : sR} (h : CQ v α l ρ) (ho : OKs α l ρ) {y what : Nat} (hy60 : y ≤ 60) (hwh : what ≤ 2) : ∃ w, fX4_behind 52 (nI y) (nI what) v = some (sAhead ρ (sGo α l y ρ) what, w) ∧ frC v w := by
  obtain ⟨w, hw, hT⟩ := p_trial h ho
  obtain ⟨u, hu, huf⟩ := p_aheadL ho.1 ho.2.1 h y what hy60 hwh y zFU 0 ρ w (Nat.zero_add _) (by unfold zFU; omega) hT (by have := ho.2.2.2; omega)
  refine ⟨u, ?_, huf⟩
  unfold fX4_behind
  rw [rf_52_3, rf_52_2, hw, zbindv_some]
  exact hu
/-- the year in which x is what comes of it -/
def sWhen (α : sA) (l : sL) (x : Int32) : Nat → sR → Int32
  | 0, _ => -1
  | d + 1, ρ => if oI (sPass α l ρ).1 = x then nI (sSc ρ 0) else sWhen α l x d (sPass α l ρ).2
theorem p_whenL {v0 : zV} {α : sA} {l : sL} (ha : okA α) (hl : okL l) (x : Int32) : ∀ (d n j : Nat) (ρ : sR) (w : zV), j + d = 60 → d < n → TR v0 α l w ρ → sSc ρ 0 + d < 900 → ∃ u, fX4_yearOfEntry_13 n 52 x (nI j) w = some (sWhen α l x d ρ, u) ∧ frC v0 u := by
  intro d
  induction d with
  | zero =>
    intro n j ρ w hj hn hT hyr
    obtain ⟨n, rfl⟩ : ∃ k, n = k + 1 := ⟨n - 1, by omega⟩
    obtain rfl : j = 60 := by omega
    refine ⟨w, ?_, hT.2.2.2⟩
    rw [fX4_yearOfEntry_13]
    dsimp only
    rw [if_pos (by decide)]
    rfl
  | succ d ih =>
    intro n j ρ w hj hn hT hyr
    obtain ⟨n, rfl⟩ : ∃ k, n = k + 1 := ⟨n - 1, by omega⟩
    obtain ⟨u, hu, hT2, hy2⟩ := p_passT ha hl hT (by omega)
    rw [fX4_yearOfEntry_13]
    dsimp only
    rw [if_neg (show ¬ (60 : Int32) ≤ nI j from nI_ge (b := 60) (by omega) (by decide)), rf_52_1, rf_52_3, hu, zbind_some, sWhen]
    by_cases e : oI (sPass α l ρ).1 = x
    · rw [if_pos e, if_pos e, hT2.2.1.1.1, hy2, i_1, nI_sub' (by omega)]
      exact ⟨u, rfl, hT2.2.2.2⟩
    · rw [if_neg e, if_neg e, nI_1]
      exact ih n (j + 1) (sPass α l ρ).2 u (by omega) (by omega) hT2 (by omega)
theorem p_when {v : zV} {α : sA} {l : sL} {ρ : sR} (h : CQ v α l ρ) (ho : OKs α l ρ) (x : Int32) : ∃ w, fX4_yearOfEntry 52 x v = some (sWhen α l x 60 ρ, w) ∧ frC v w := by
  obtain ⟨w, hw, hT⟩ := p_trial h ho
  obtain ⟨u, hu, huf⟩ := p_whenL ho.1 ho.2.1 x 60 zFU 0 ρ w rfl (by unfold zFU; omega) hT (by have := ho.2.2.2; omega)
  refine ⟨u, ?_, huf⟩
  unfold fX4_yearOfEntry
  rw [rf_52_3, rf_52_2, hw, zbindv_some]
  exact hu
/-- behind how many years a man sits no more -/
def sStay (α : sA) (l : sL) (m : Nat) : Nat → Nat → sR → Int32
  | 0, _, _ => -1
  | d + 1, k, ρ => if sSt ρ m = 1 then sStay α l m d (k + 1) (sPass α l ρ).2 else nI k
theorem p_stayL {v0 : zV} {α : sA} {l : sL} (ha : okA α) (hl : okL l) {m : Nat} (hm : m < α 0 1) : ∀ (d n j : Nat) (ρ : sR) (w : zV), j + d = 61 → d < n → TR v0 α l w ρ → sSc ρ 0 + d < 900 → ∃ u, fX4_yearsLeft_13 n 52 (nI m) (nI j) w = some (sStay α l m d j ρ, u) ∧ frC v0 u := by
  have hM := ha.1.2.1
  intro d
  induction d with
  | zero =>
    intro n j ρ w hj hn hT hyr
    obtain ⟨n, rfl⟩ : ∃ k, n = k + 1 := ⟨n - 1, by omega⟩
    obtain rfl : j = 61 := by omega
    refine ⟨w, ?_, hT.2.2.2⟩
    rw [fX4_yearsLeft_13]
    dsimp only
    rw [if_pos (by decide)]
    rfl
  | succ d ih =>
    intro n j ρ w hj hn hT hyr
    obtain ⟨n, rfl⟩ : ∃ k, n = k + 1 := ⟨n - 1, by omega⟩
    have hs4 := hT.2.2.1.2.2.2.1 m
    rw [fX4_yearsLeft_13]
    dsimp only
    rw [if_neg (show ¬ (60 : Int32) < nI j from nI_nlt (a := 60) (b := j) (by omega) (by decide)), rf_52_3, rf_53_9, p_get (by rw [ln_55]; omega), zbind_some, hT.2.1.2.2.1 m (by omega), sStay]
    simp (disch := omega) only [i_1, nI_eq']
    by_cases e : sSt ρ m = 1
    · obtain ⟨u, hu, hT2, hy2⟩ := p_passT ha hl hT (by omega)
      rw [if_pos e, if_pos e, rf_52_1, hu, zbind_some, nI_add]
      exact ih n (j + 1) (sPass α l ρ).2 u (by omega) (by omega) hT2 (by omega)
    · rw [if_neg e, if_neg e]
      exact ⟨w, rfl, hT.2.2.2⟩
theorem p_stays {v : zV} {α : sA} {l : sL} {ρ : sR} (h : CQ v α l ρ) (ho : OKs α l ρ) {m : Nat} (hm : m < α 0 1) : ∃ w, fX4_yearsLeft 52 (nI m) v = some (sStay α l m 61 0 ρ, w) ∧ frC v w := by
  obtain ⟨w, hw, hT⟩ := p_trial h ho
  obtain ⟨u, hu, huf⟩ := p_stayL ho.1 ho.2.1 hm 61 zFU 0 ρ w rfl (by unfold zFU; omega) hT (by have := ho.2.2.2; omega)
  refine ⟨u, ?_, huf⟩
  unfold fX4_yearsLeft
  rw [rf_52_3, rf_52_2, hw, zbindv_some]
  exact hu
/-- whoever is taken in first -/
def sHeir (α : sA) (l : sL) : Nat → sR → Int32
  | 0, _ => -1
  | d + 1, ρ => match (sPass α l ρ).1 with
    | none => sHeir α l d (sPass α l ρ).2
    | some m => nI m
theorem sPass_lt {α : sA} {l : sL} {ρ : sR} {m : Nat} (h : (sPass α l ρ).1 = some m) : m < α 0 1 := (sChoose_ok h).1
theorem p_heirL {v0 : zV} {α : sA} {l : sL} (ha : okA α) (hl : okL l) : ∀ (d n j : Nat) (ρ : sR) (w : zV), j + d = 60 → d < n → TR v0 α l w ρ → sSc ρ 0 + d < 900 → ∃ u, fX4_heirOf_43 n 52 (nI j) w = some (sHeir α l d ρ, u) ∧ frC v0 u := by
  have hM := ha.1.2.1
  intro d
  induction d with
  | zero =>
    intro n j ρ w hj hn hT hyr
    obtain ⟨n, rfl⟩ : ∃ k, n = k + 1 := ⟨n - 1, by omega⟩
    obtain rfl : j = 60 := by omega
    refine ⟨w, ?_, hT.2.2.2⟩
    rw [fX4_heirOf_43]
    dsimp only
    rw [if_pos (by decide)]
    rfl
  | succ d ih =>
    intro n j ρ w hj hn hT hyr
    obtain ⟨n, rfl⟩ : ∃ k, n = k + 1 := ⟨n - 1, by omega⟩
    obtain ⟨u, hu, hT2, hy2⟩ := p_passT ha hl hT (by omega)
    rw [fX4_heirOf_43]
    dsimp only
    rw [if_neg (show ¬ (60 : Int32) ≤ nI j from nI_ge (b := 60) (by omega) (by decide)), rf_52_1, rf_52_3, hu, zbind_some, sHeir]
    cases e : (sPass α l ρ).1 with
    | none =>
      rw [oI_none, if_pos (show -nI 1 = (-1 : Int32) from rfl), nI_1]
      exact ih n (j + 1) (sPass α l ρ).2 u (by omega) (by omega) hT2 (by omega)
    | some m =>
      have := sPass_lt e
      rw [oI_some, if_neg (fun q => by rw [show (-1 : Int32) = -nI 1 from rfl, ng_eq (by omega) (by decide) (by decide)] at q; exact q)]
      exact ⟨u, rfl, hT2.2.2.2⟩
def sHeirOf (α : sA) (l : sL) (ρ : sR) (m : Nat) : Int32 := if sSt ρ m = 1 then sHeir α l 60 (sKill α ρ m) else -1
theorem p_killT {v0 w : zV} {α : sA} {l : sL} {ρ : sR} (ha : okA α) (h : TR v0 α l w ρ) {m : Nat} (hm : m < α 0 1) : ∃ u, fX2_kill 50 53 (nI m) w = some (nI (sGone ρ (sKill α ρ m) m), u) ∧ TR v0 α l u (sKill α ρ m) := by
  obtain ⟨u, hu, hr, hon⟩ := p_kill r53 ha (ok_13 ha) h.1.1 h.2.1 h.2.2.1 hm
  have hf : frC w u := frC_R (by decide) (by decide) hon
  exact ⟨u, hu, CE_f h.1 hf, hr, okW_kill h.2.2.1 hm, frC_tr h.2.2.2 hf⟩
theorem p_heir {v : zV} {α : sA} {l : sL} {ρ : sR} (h : CQ v α l ρ) (ho : OKs α l ρ) {m : Nat} (hm : m < α 0 1) : ∃ w, fX4_heirOf 52 (nI m) v = some (sHeirOf α l ρ m, w) ∧ frC v w := by
  have hM := ho.1.1.2.1
  have hs4 := ho.2.2.1.2.2.2.1 m
  unfold fX4_heirOf sHeirOf
  rw [rf_52_2, rf_37_9, p_get (by rw [ln_39]; omega), zbind_some, h.2.2.2.1 m (by omega)]
  simp (disch := omega) only [i_1, nI_eq']
  by_cases e : sSt ρ m = 1
  · obtain ⟨w, hw, hT⟩ := p_trial h ho
    obtain ⟨u, hu, hT2⟩ := p_killT ho.1 hT hm
    have hy : sSc (sKill α ρ m) 0 = sSc ρ 0 := sKill_sc α ρ m (by decide) (by decide)
    obtain ⟨x, hx, hxf⟩ := p_heirL ho.1 ho.2.1 60 zFU 0 (sKill α ρ m) u rfl (by unfold zFU; omega) hT2 (by have := ho.2.2.2; omega)
    refine ⟨x, ?_, hxf⟩
    rw [if_pos e, if_pos e, rf_52_3, hw, zbindv_some, rf_52_1, hu, zbind_some]
    exact hx
  · rw [if_neg e, if_neg e]
    exact ⟨v, rfl, frC_rf v⟩
/-- who would leave with him, as bits -/
def sDoomS (ρ ρ2 : sR) (m : Nat) (b : Int32) : Int32 := if sSt ρ2 m = 2 ∧ sSt ρ m = 1 then b ||| (1 <<< (nI m &&& 31)) else b
def sDoomed (α : sA) (ρ : sR) (m : Nat) : Int32 := zit (sDoomS ρ (sKill α ρ m)) (α 0 1) 0 0
theorem p_doomed {v : zV} {α : sA} {l : sL} {ρ : sR} (h : CQ v α l ρ) (ho : OKs α l ρ) {m : Nat} (hm : m < α 0 1) : ∃ w, fX4_leavingWith 52 (nI m) v = some (sDoomed α ρ m, w) ∧ frC v w := by
  have hM := ho.1.1.2.1
  obtain ⟨w, hw, hT⟩ := p_trial h ho
  obtain ⟨u, hu, hT2⟩ := p_killT ho.1 hT hm
  refine ⟨u, ?_, hT2.2.2.2⟩
  unfold fX4_leavingWith sDoomed
  rw [rf_52_3, rf_52_2, hw, zbindv_some, rf_52_1, hu, zbind_some]
  have hR37 := (CQ_f h hT2.2.2.2).2
  refine lpE (fun n j b => fX4_leavingWith_28 n 52 b (nI j) u) (sDoomS ρ (sKill α ρ m)) (α 0 1) (fun b => some (b, u)) (fun n b => ?_) (fun n j b hj => ?_) (α 0 1) zFU 0 0 (Nat.zero_add _) (by unfold zFU; omega)
  · show fX4_leavingWith_28 (n + 1) 52 b (nI (α 0 1)) u = some (b, u)
    rw [fX4_leavingWith_28]
    dsimp only
    rw [rf_52_0, hT2.1.1.1.2.1, if_pos (Int32.le_refl _)]
  · show fX4_leavingWith_28 (n + 1) 52 b (nI j) u = fX4_leavingWith_28 n 52 (sDoomS ρ (sKill α ρ m) j b) (nI (j + 1)) u
    have s1 := hT2.2.2.1.2.2.2.1 j
    have s2 := ho.2.2.1.2.2.2.1 j
    rw [fX4_leavingWith_28]
    dsimp only
    rw [rf_52_0, hT2.1.1.1.2.1, if_neg (nI_ge hj (by omega)), rf_52_3, rf_53_9, p_get (by rw [ln_55]; omega), zbind_some, rf_52_2, rf_37_9, p_get (by rw [ln_39]; omega), zbind_some, hT2.2.1.2.2.1 j (by omega), hR37.2.2.1 j (by omega)]
    unfold sDoomS
    rw [nI_1, show (2 : Int32) = nI 2 from rfl, show (if nI (sSt ρ j) = 1 then fX4_leavingWith_28 n 52 (b ||| 1 <<< (nI j &&& 31)) (nI (j + 1)) u else fX4_leavingWith_28 n 52 b (nI (j + 1)) u) = if sSt ρ j = 1 then fX4_leavingWith_28 n 52 (b ||| 1 <<< (nI j &&& 31)) (nI (j + 1)) u else fX4_leavingWith_28 n 52 b (nI (j + 1)) u from by rw [i_1]; simp (disch := omega) only [nI_eq']]
    simp (disch := omega) only [nI_eq']
    by_cases c1 : sSt (sKill α ρ m) j = 2
    · by_cases c2 : sSt ρ j = 1
      · rw [if_pos c1, if_pos c2, if_pos ⟨c1, c2⟩]
      · rw [if_pos c1, if_neg c2, if_neg (fun q => c2 q.2)]
    · rw [if_neg c1, if_neg (fun q => c1 q.1)]
end
