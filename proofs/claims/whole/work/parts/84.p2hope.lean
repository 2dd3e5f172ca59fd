section
/-! PRAISES: the search as values -/
theorem sFall_as (α : sA) (c : Nat) (f : Nat → Int32) : ∀ (d : Nat) (ρ : sR), sFall α c d (rUpAs ρ f) = rUpAs (sFall α c d ρ) f := by
  intro d
  induction d with
  | zero => intro ρ; rfl
  | succ d ih =>
    intro ρ
    show (if 0 < c ∧ c < (sCh ρ).length ∧ sDf α ((sCh ρ).getD (c - 1) 0) ((sCh ρ).getD c 0) = 0 then sFall α c d (rUpAs (sLeave ρ c) f) else rUpAs ρ f) = rUpAs (if 0 < c ∧ c < (sCh ρ).length ∧ sDf α ((sCh ρ).getD (c - 1) 0) ((sCh ρ).getD c 0) = 0 then sFall α c d (sLeave ρ c) else ρ) f
    rw [ih]
    split <;> rfl
theorem sKill_as (α : sA) (f : Nat → Int32) (ρ : sR) (m : Nat) : sKill α (rUpAs ρ f) m = rUpAs (sKill α ρ m) f := by
  unfold sKill
  show (if sSt ρ m = 3 then rUpAs ρ f else match sIx (sCh ρ) m with
    | none => rUpAs (sDead ρ m) f
    | some c => sFall α c 13 (rUpAs (sGap (sDead ρ m) c) f)) = _
  split
  · rfl
  · cases sIx (sCh ρ) m with
    | none => rfl
    | some c => exact sFall_as α c f 13 _
theorem sTell_as (α : sA) (f : Nat → Int32) (ρ : sR) : sTell α (rUpAs ρ f) = rUpAs (sTell α ρ) f ∧ sSc (sTell α ρ) 0 = sSc (sTell α ρ) 0 := by
  refine ⟨?_, rfl⟩
  unfold sTell
  exact zit_two (fun _ a b => a = rUpAs b f) (α 0 4) (fun j a b hj e => by
    rw [e]
    show (if α (30 + j) 0 = sSc b 0 then sKill α (rUpAs b f) (α (30 + j) 1) else rUpAs b f) = rUpAs (if α (30 + j) 0 = sSc b 0 then sKill α b (α (30 + j) 1) else b) f
    rw [sKill_as]
    split <;> rfl) (α 0 4) 0 _ _ (Nat.zero_add _) rfl
theorem sFall_asv (α : sA) (c : Nat) : ∀ (d : Nat) (ρ : sR), sAs (sFall α c d ρ) = sAs ρ ∧ sSc (sFall α c d ρ) 0 = sSc ρ 0 := by
  intro d
  induction d with
  | zero => intro ρ; exact ⟨rfl, rfl⟩
  | succ d ih =>
    intro ρ
    rw [sFall]
    split
    · exact ⟨(ih _).1, (ih _).2⟩
    · exact ⟨rfl, rfl⟩
theorem sKill_asv (α : sA) (ρ : sR) (m : Nat) : sAs (sKill α ρ m) = sAs ρ ∧ sSc (sKill α ρ m) 0 = sSc ρ 0 := by
  unfold sKill
  split
  · exact ⟨rfl, rfl⟩
  · cases sIx (sCh ρ) m with
    | none => exact ⟨rfl, rfl⟩
    | some c => exact sFall_asv α c 13 _
theorem sTell_asv (α : sA) (ρ : sR) : sAs (sTell α ρ) = sAs ρ ∧ sSc (sTell α ρ) 0 = sSc ρ 0 := by
  unfold sTell
  refine zit_inv (fun _ a => sAs a = sAs ρ ∧ sSc a 0 = sSc ρ 0) (α 0 4) (fun j a hj e => ?_) (α 0 4) 0 ρ (Nat.zero_add _) ⟨rfl, rfl⟩
  split
  · exact ⟨(sKill_asv α a _).1.trans e.1, (sKill_asv α a _).2.trans e.2⟩
  · exact e
/-- a choice: 0 nobody, 1 + m man m -/
def sAddO (x : Int32) (c : Nat) (ρ : sR) : sR := if c = 0 then ρ else sAdd ρ (c - 1) x
def sStp (α : sA) (l : sL) (x : Int32) (c : Nat) (ρ : sR) : Option Nat × sR := sSettle α l (sTell α (sAddO x c ρ))
def sOkc (ρ : sR) (c : Nat) : Bool := decide (c = 0) || decide (sSt ρ (c - 1) = 0)
def hPr (y c : Nat) (x : Int32) (a m : Nat) : Int32 := if a = y ∧ c = m + 1 then x else 0
theorem sStp_M (α : sA) (l : sL) (x : Int32) (c : Nat) (ρ : sR) : sPassM α l none (hPr (sSc ρ 0) c x) ρ = sStp α l x c ρ := by
  unfold sPassM sStp sAddO sMore sHp
  have e1 := sTell_asv α ρ
  by_cases h : c = 0
  · subst h
    rw [if_pos rfl]
    congr 1
    rw [show (fun m => sAs (sTell α ρ) m + hPr (sSc ρ 0) 0 x (sSc (sTell α ρ) 0) m) = sAs (sTell α ρ) from funext (fun m => by
      unfold hPr
      rw [if_neg (fun q => by have := q.2; omega), Int32.add_zero])]
    rfl
  · rw [if_neg h]
    congr 1
    unfold sAdd
    rw [(sTell_as α _ ρ).1]
    congr 1
    funext m
    rw [e1.1, e1.2, sUp_if]
    unfold hPr
    by_cases q : m = c - 1
    · rw [if_pos ⟨rfl, by omega⟩, if_pos q, q]
    · rw [if_neg (fun z => q (by have := z.2; omega)), if_neg q, Int32.add_zero]
def sLess (st : Option (Nat × Nat)) (p : Nat) : Bool := match st with
  | none => true
  | some x => decide (p < x.1)
def sBst (st : Option (Nat × Nat)) (p w : Nat) : Option (Nat × Nat) := if sLess st p = true then some (p, w) else st
def sHope (α : sA) (l : sL) (m : Nat) (x : Int32) : Nat → sR → Nat → Nat → Bool → Option (Nat × Nat) → Option (Nat × Nat)
  | 0, _, p, w, b, st => if b = true then sBst st p w else st
  | d + 1, ρ, p, w, b, st => zit (fun c st => if sOkc ρ c = true then sHope α l m x d (sStp α l x c ρ).2 (p + if c = 0 then 0 else 1) (100 * w + c) (b || decide ((sStp α l x c ρ).1 = some m)) st else st) (α 0 1 + 1) 0 st
def sWays (α : sA) (l : sL) (m : Nat) (x : Int32) : Nat → sR → Nat → Nat → Option (Nat × Nat) → Option (Nat × Nat)
  | 0, _, _, _, st => st
  | d + 1, ρ, p, w, st => zit (fun c st => if sLess st (p + if c = 0 then 0 else 1) = true ∧ sOkc ρ c = true then (if (sStp α l x c ρ).1 = some m then some (p + (if c = 0 then 0 else 1), (100 * w + c) * 100 ^ d) else sWays α l m x d (sStp α l x c ρ).2 (p + if c = 0 then 0 else 1) (100 * w + c) st) else st) (α 0 1 + 1) 0 st
theorem zit_id {σ : Type} {g : Nat → σ → σ} {s : σ} : ∀ (d j : Nat), (∀ k, j ≤ k → k < j + d → g k s = s) → zit g d j s = s := by
  intro d
  induction d with
  | zero => intro j _; rfl
  | succ d ih =>
    intro j h
    show zit g d (j + 1) (g j s) = s
    rw [h j (Nat.le_refl _) (by omega)]
    exact ih (j + 1) (fun k h1 h2 => h k (by omega) (by omega))
theorem sLess_mono {st : Option (Nat × Nat)} {p q : Nat} (h : ¬ sLess st p = true) (hq : p ≤ q) : ¬ sLess st q = true := by
  cases st with
  | none => exact absurd rfl h
  | some x =>
    intro z
    have z' := of_decide_eq_true (show decide (q < x.1) = true from z)
    exact h (decide_eq_true (show p < x.1 by omega))
theorem sHope_no (α : sA) (l : sL) (m : Nat) (x : Int32) : ∀ (d : Nat) (ρ : sR) (p w : Nat) (b : Bool) (st : Option (Nat × Nat)), ¬ sLess st p = true → sHope α l m x d ρ p w b st = st := by
  intro d
  induction d with
  | zero =>
    intro ρ p w b st h
    rw [sHope]
    unfold sBst
    rw [if_neg h]
    exact ite_self _
  | succ d ih =>
    intro ρ p w b st h
    rw [sHope]
    refine zit_id _ _ (fun c _ _ => ?_)
    show (if sOkc ρ c = true then _ else st) = st
    rw [ih _ _ _ _ _ (sLess_mono h (Nat.le_add_right _ _))]
    exact ite_self _
theorem sHope_yes (α : sA) (l : sL) (m : Nat) (x : Int32) : ∀ (d : Nat) (ρ : sR) (p w : Nat) (st : Option (Nat × Nat)), sHope α l m x d ρ p w true st = sBst st p (w * 100 ^ d) := by
  intro d
  induction d with
  | zero =>
    intro ρ p w st
    rw [sHope, if_pos rfl, Nat.pow_zero, Nat.mul_one]
  | succ d ih =>
    intro ρ p w st
    rw [sHope]
    have e0 : ∀ st, (if sOkc ρ 0 = true then sHope α l m x d (sStp α l x 0 ρ).2 (p + if (0 : Nat) = 0 then 0 else 1) (100 * w + 0) (true || decide ((sStp α l x 0 ρ).1 = some m)) st else st) = sBst st p (w * 100 ^ (d + 1)) := by
      intro st
      rw [if_pos (show sOkc ρ 0 = true from rfl), Bool.true_or, ih, if_pos rfl, Nat.add_zero, Nat.add_zero, Nat.pow_succ, Nat.mul_comm 100 w, Nat.mul_assoc, Nat.mul_comm 100]
    show zit _ (α 0 1) (0 + 1) (if sOkc ρ 0 = true then sHope α l m x d (sStp α l x 0 ρ).2 (p + if (0 : Nat) = 0 then 0 else 1) (100 * w + 0) (true || decide ((sStp α l x 0 ρ).1 = some m)) st else st) = _
    rw [e0]
    refine zit_id _ _ (fun c h1 _ => ?_)
    show (if sOkc ρ c = true then _ else _) = _
    rw [if_neg (show ¬ c = 0 by omega), sHope_no]
    · exact ite_self _
    · unfold sBst
      split
      · intro z
        have := of_decide_eq_true (show decide (p + 1 < p) = true from z)
        omega
      next h => exact sLess_mono h (Nat.le_succ _)
theorem sWays_eq (α : sA) (l : sL) (m : Nat) (x : Int32) : ∀ (d : Nat) (ρ : sR) (p w : Nat) (st : Option (Nat × Nat)), sHope α l m x d ρ p w false st = sWays α l m x d ρ p w st := by
  intro d
  induction d with
  | zero => intro ρ p w st; rfl
  | succ d ih =>
    intro ρ p w st
    rw [sHope, sWays]
    refine zit_cg _ _ _ (fun c st _ _ => ?_)
    show (if sOkc ρ c = true then sHope α l m x d (sStp α l x c ρ).2 (p + if c = 0 then 0 else 1) (100 * w + c) (false || decide ((sStp α l x c ρ).1 = some m)) st else st) = (if sLess st (p + if c = 0 then 0 else 1) = true ∧ sOkc ρ c = true then (if (sStp α l x c ρ).1 = some m then some (p + (if c = 0 then 0 else 1), (100 * w + c) * 100 ^ d) else sWays α l m x d (sStp α l x c ρ).2 (p + if c = 0 then 0 else 1) (100 * w + c) st) else st)
    generalize (p + if c = 0 then 0 else 1) = p'
    by_cases h1 : sOkc ρ c = true
    · rw [if_pos h1, Bool.false_or]
      by_cases h3 : (sStp α l x c ρ).1 = some m
      · rw [decide_eq_true h3, sHope_yes, if_pos h3]
        unfold sBst
        by_cases h2 : sLess st p' = true
        · rw [if_pos h2, if_pos ⟨h2, h1⟩]
        · rw [if_neg h2, if_neg (fun q => h2 q.1)]
      · rw [decide_eq_false h3, if_neg h3]
        by_cases h2 : sLess st p' = true
        · rw [if_pos ⟨h2, h1⟩, ih]
        · rw [if_neg (fun q => h2 q.1), sHope_no _ _ _ _ _ _ _ _ _ _ h2]
    · rw [if_neg h1, if_neg (fun q => h1 q.2)]
/-- it never tells of more years than there are -/
theorem sWays_le (α : sA) (l : sL) (m : Nat) (x : Int32) (Y : Nat) : ∀ (d : Nat) (ρ : sR) (p w : Nat) (st : Option (Nat × Nat)), p + d ≤ Y → (∀ z, st = some z → z.1 ≤ Y) → ∀ z, sWays α l m x d ρ p w st = some z → z.1 ≤ Y := by
  intro d
  induction d with
  | zero => intro ρ p w st _ h; exact h
  | succ d ih =>
    intro ρ p w st hp h
    rw [sWays]
    refine zit_inv (fun _ st => ∀ z, st = some z → z.1 ≤ Y) (α 0 1 + 1) (fun c st hc hI => ?_) (α 0 1 + 1) 0 st (Nat.zero_add _) h
    have hp' : p + (if c = 0 then 0 else 1) + d ≤ Y := by split <;> omega
    revert hp'
    show _ → ∀ z, (if sLess st (p + if c = 0 then 0 else 1) = true ∧ sOkc ρ c = true then (if (sStp α l x c ρ).1 = some m then some (p + (if c = 0 then 0 else 1), (100 * w + c) * 100 ^ d) else sWays α l m x d (sStp α l x c ρ).2 (p + if c = 0 then 0 else 1) (100 * w + c) st) else st) = some z → z.1 ≤ Y
    generalize (p + if c = 0 then 0 else 1) = p'
    intro hp'
    split
    · split
      · intro z hz
        cases hz
        show p' ≤ Y
        omega
      · exact ih _ _ _ _ hp' hI
    · exact hI
end
