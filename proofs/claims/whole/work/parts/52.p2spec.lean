/-! PHASE 2: the academy and the row as values, and what a year does -/
section
/-- an academy as numbers: 0: how many questions, men, chairs, seats, deaths, praises; 1: sides; 2: ages; 3: seats; 10 + m: beliefs; 30 + k: deaths; 50 + k: praises -/
abbrev sA : Type := Nat → Nat → Nat
def okA (α : sA) : Prop := (α 0 0 ≤ 6 ∧ α 0 1 ≤ 16 ∧ 2 ≤ α 0 2 ∧ α 0 2 ≤ 12 ∧ α 0 3 ≤ α 0 2 ∧ α 0 4 ≤ 12 ∧ α 0 5 ≤ 12) ∧ (∀ q, q < α 0 0 → 2 ≤ α 1 q ∧ α 1 q ≤ 3) ∧ (∀ m, m < α 0 1 → α 2 m ≤ 99) ∧ (∀ c, c < α 0 3 → α 3 c < α 0 1) ∧ (∀ c d, c < d → d < α 0 3 → α 3 c ≠ α 3 d) ∧ (∀ m, m < α 0 1 → ∀ q, q < α 0 0 → α (10 + m) q < α 1 q) ∧ (∀ k, k < α 0 4 → 1 ≤ α (30 + k) 0 ∧ α (30 + k) 0 ≤ 60 ∧ α (30 + k) 1 < α 0 1) ∧ (∀ k, k < α 0 5 → 1 ≤ α (50 + k) 0 ∧ α (50 + k) 0 ≤ 60 ∧ α (50 + k) 1 < α 0 1 ∧ 1 ≤ α (50 + k) 2 ∧ α (50 + k) 2 ≤ 99)
/-- in how many questions two differ -/
def sDf (α : sA) (a b : Nat) : Nat := zcnt (fun q => decide (α (10 + a) q ≠ α (10 + b) q)) (α 0 0)
theorem sDf_le (α : sA) (a b : Nat) : sDf α a b ≤ α 0 0 := zcnt_le _ _
/-- THE ROW as a value: chairs, state, waits, since, counts (0 year, 1 voids, 2 entered, 3 left, 4 died, 5 asides), this year's praise aside -/
abbrev sR : Type := List Nat × (Nat → Nat) × (Nat → Nat) × (Nat → Int32) × (Nat → Nat) × (Nat → Int32)
def sCh (ρ : sR) : List Nat := ρ.1
def sSt (ρ : sR) : Nat → Nat := ρ.2.1
def sWt (ρ : sR) : Nat → Nat := ρ.2.2.1
def sSn (ρ : sR) : Nat → Int32 := ρ.2.2.2.1
def sSc (ρ : sR) : Nat → Nat := ρ.2.2.2.2.1
def sAs (ρ : sR) : Nat → Int32 := ρ.2.2.2.2.2
def sUp {α : Type} (f : Nat → α) (k : Nat) (x : α) : Nat → α := fun j => if j = k then x else f j
theorem sUp_s {α : Type} (f : Nat → α) (k : Nat) (x : α) : sUp f k x k = x := by simp [sUp]
theorem sUp_n {α : Type} (f : Nat → α) {k j : Nat} (x : α) (h : j ≠ k) : sUp f k x j = f j := by simp [sUp, h]
theorem sUp_if {α : Type} (f : Nat → α) (k j : Nat) (x : α) : sUp f k x j = if j = k then x else f j := rfl
def rUpCh (ρ : sR) (l : List Nat) : sR := (l, ρ.2)
def rUpSt (ρ : sR) (f : Nat → Nat) : sR := (ρ.1, f, ρ.2.2)
def rUpWt (ρ : sR) (f : Nat → Nat) : sR := (ρ.1, ρ.2.1, f, ρ.2.2.2)
def rUpSn (ρ : sR) (f : Nat → Int32) : sR := (ρ.1, ρ.2.1, ρ.2.2.1, f, ρ.2.2.2.2)
def rUpSc (ρ : sR) (f : Nat → Nat) : sR := (ρ.1, ρ.2.1, ρ.2.2.1, ρ.2.2.2.1, f, ρ.2.2.2.2.2)
def rUpAs (ρ : sR) (f : Nat → Int32) : sR := (ρ.1, ρ.2.1, ρ.2.2.1, ρ.2.2.2.1, ρ.2.2.2.2.1, f)
def sLast (ρ : sR) : Nat := (sCh ρ).getD ((sCh ρ).length - 1) 0
def sLastO (ρ : sR) : Option Nat := if (sCh ρ).length = 0 then none else some (sLast ρ)
def sIx (l : List Nat) (m : Nat) : Option Nat := l.findIdx? (fun x => x == m)
/-- a man leaves his chair -/
def sLeave (ρ : sR) (c : Nat) : sR := rUpCh (rUpSc (rUpSt ρ (sUp (sSt ρ) ((sCh ρ).getD c 0) 2)) (sUp (sSc ρ) 3 (sSc ρ 3 + 1))) ((sCh ρ).eraseIdx c)
/-- those who agree across a gap leave -/
def sFall (α : sA) (c : Nat) : Nat → sR → sR
  | 0, ρ => ρ
  | d + 1, ρ => if 0 < c ∧ c < (sCh ρ).length ∧ sDf α ((sCh ρ).getD (c - 1) 0) ((sCh ρ).getD c 0) = 0 then sFall α c d (sLeave ρ c) else ρ
/-- a man is dead: by his chair -/
def sDead (ρ : sR) (m : Nat) : sR := rUpSc (rUpSt ρ (sUp (sSt ρ) m 3)) (sUp (sSc ρ) 4 (sSc ρ 4 + 1))
def sGap (ρ : sR) (c : Nat) : sR := rUpCh ρ ((sCh ρ).eraseIdx c)
def sKill (α : sA) (ρ : sR) (m : Nat) : sR := if sSt ρ m = 3 then ρ else match sIx (sCh ρ) m with
  | none => sDead ρ m
  | some c => sFall α c 13 (sGap (sDead ρ m) c)
def sTell (α : sA) (ρ : sR) : sR := zit (fun k ρ => if α (30 + k) 0 = sSc ρ 0 then sKill α ρ (α (30 + k) 1) else ρ) (α 0 4) 0 ρ
/-- praise as told -/
def sPr (α : sA) (m y : Nat) : Int32 := zsum (fun k => if α (50 + k) 1 = m ∧ α (50 + k) 0 = y then nI (α (50 + k) 2) else 0) (α 0 5)
/-- a law: steps (0, a number), (1, a fact), (2 to 7, 0) -/
abbrev sL : Type := List (Nat × Nat)
def sUsual : sL := [(1, 0), (0, 10), (4, 0), (1, 2), (2, 0)]
def sBy (w : Nat) (a b : Int32) : Int32 := match w with
  | 2 => a + b
  | 3 => a - b
  | 4 => a * b
  | 5 => if b = 0 then 0 else a / b
  | 6 => if b ≤ a then b else a
  | _ => if a ≤ b then b else a
/-- the stack, top first, behind the steps -/
def sPop (w : Nat) : List Int32 → List Int32
  | b :: a :: st => sBy w a b :: st
  | st => st
def sEv (f : Nat → Int32) : sL → List Int32 → List Int32
  | [], st => st
  | p :: t, st => if p.1 < 2 then sEv f t ((if p.1 = 0 then nI p.2 else f p.2) :: st) else sEv f t (sPop p.1 st)
theorem sEv_push {f : Nat → Int32} {w x : Nat} {t : sL} {st : List Int32} (h : w < 2) : sEv f ((w, x) :: t) st = sEv f t ((if w = 0 then nI x else f x) :: st) := if_pos h
theorem sEv_pop {f : Nat → Int32} {w x : Nat} {t : sL} {st : List Int32} {a b : Int32} (h : ¬ w < 2) : sEv f ((w, x) :: t) (b :: a :: st) = sEv f t (sBy w a b :: st) := if_neg h
/-- steps that go well on a stack of n, and leave one -/
def wfL : sL → Nat → Prop
  | [], n => n = 1
  | (w, x) :: t, n => if w < 2 then ((w = 0 → x ≤ 999) ∧ (w = 1 → x < 7)) ∧ wfL t (n + 1) else w < 8 ∧ 2 ≤ n ∧ wfL t (n - 1)
def okL (l : sL) : Prop := wfL l 0 ∧ l.length ≤ 150
def sVal (l : sL) (f : Nat → Int32) : Int32 := (sEv f l []).headD 0
/-- the facts of a man, in their order -/
def sFact (α : sA) (ρ : sR) (m : Nat) (k : Nat) : Int32 := match k with
  | 0 => nI (sDf α m (sLast ρ))
  | 1 => nI (α 0 0 - sDf α m (sLast ρ))
  | 2 => nI (sWt ρ m)
  | 3 => nI (α 2 m + sSc ρ 0 - 1)
  | 4 => nI m
  | 5 => nI (sSc ρ 0)
  | 6 => nI (sCh ρ).length
  | _ => 0
def sScore (α : sA) (l : sL) (ρ : sR) (m : Nat) : Int32 := if (sCh ρ).length = 0 then 0 else sVal l (sFact α ρ m) + sPr α m (sSc ρ 0) + sAs ρ m
/-- whoever is taken in, by scores -/
def sEldS (α : sA) (ρ : sR) (m : Nat) (e : Option Nat) : Option Nat := if sSt ρ m = 0 ∧ (e = none ∨ α 2 (e.getD 0) < α 2 m) then some m else e
def sEld (α : sA) (ρ : sR) : Option Nat := zit (sEldS α ρ) (α 0 1) 0 none
def sGreS (ρ : sR) (sc : Nat → Int32) (m : Nat) (s : Option Nat × Int32) : Option Nat × Int32 := if sSt ρ m ≠ 0 then s else if s.2 ≤ sc m then (if sc m ≤ s.2 then none else some m, sc m) else s
def sGre (α : sA) (ρ : sR) (sc : Nat → Int32) : Option Nat := (zit (sGreS ρ sc) (α 0 1) 0 (none, 0)).1
def sChoose (α : sA) (ρ : sR) (sc : Nat → Int32) : Option Nat := if (sCh ρ).length = 0 then sEld α ρ else sGre α ρ sc
def sSit (ρ : sR) (m y : Nat) : sR := rUpSn (rUpSt (rUpCh ρ (sCh ρ ++ [m])) (sUp (sSt ρ) m 1)) (sUp (sSn ρ) m (nI y))
def sTake (ρ : sR) (o : Option Nat) : sR := match o with
  | none => rUpSc ρ (sUp (sSc ρ) 1 (sSc ρ 1 + 1))
  | some m => sSit (rUpSc ρ (sUp (sSc ρ) 2 (sSc ρ 2 + 1))) m (sSc ρ 0)
def sFull (α : sA) (ρ : sR) : sR := if α 0 2 < (sCh ρ).length then sLeave ρ 0 else ρ
def sWaitS (ρ : sR) (m : Nat) (f : Nat → Nat) : Nat → Nat := if sSt ρ m = 0 then sUp f m (f m + 1) else f
def sAge (α : sA) (ρ : sR) : sR := rUpAs (rUpSc (rUpWt ρ (zit (sWaitS ρ) (α 0 1) 0 (sWt ρ))) (sUp (sSc ρ) 0 (sSc ρ 0 + 1))) (fun _ => 0)
def sAfter (α : sA) (ρ : sR) (o : Option Nat) : sR := sAge α (sFull α (sTake ρ o))
def sSettle (α : sA) (l : sL) (ρ : sR) : Option Nat × sR := (sChoose α ρ (sScore α l ρ), sAfter α ρ (sChoose α ρ (sScore α l ρ)))
def sPass (α : sA) (l : sL) (ρ : sR) : Option Nat × sR := sSettle α l (sTell α ρ)
/-- so many years go by -/
def sGo (α : sA) (l : sL) : Nat → sR → sR
  | 0, ρ => ρ
  | n + 1, ρ => sGo α l n (sPass α l ρ).2
theorem sGo_end (α : sA) (l : sL) : ∀ (n : Nat) (ρ : sR), sGo α l (n + 1) ρ = (sPass α l (sGo α l n ρ)).2 := by
  intro n
  induction n with
  | zero => intro ρ; rfl
  | succ n ih => intro ρ; rw [sGo, ih]; rfl
/-- whoever was taken in in a year -/
def sTk (ρ : sR) (y : Nat) : Option Nat := (List.range 16).find? (fun m => sSn ρ m == nI y)
/-- the row as an academy tells it -/
def sOpen (α : sA) : sR := zit (fun c ρ => sSit ρ (α 3 c) 0) (α 0 3) 0 ([], (fun _ => 0), (fun _ => 0), (fun _ => -1), (fun k => if k = 0 then 1 else 0), (fun _ => 0))
/-- what a row may be; n: the most that sit, b: all men came ahead of it -/
def okB (α : sA) (n b : Nat) (ρ : sR) : Prop := (sCh ρ).length ≤ n ∧ (sCh ρ).Nodup ∧ (∀ m, sSt ρ m = 1 ↔ m ∈ sCh ρ) ∧ (∀ m, sSt ρ m < 4) ∧ (∀ m, α 0 1 ≤ m → sSt ρ m = 0 ∧ sSn ρ m = -1) ∧ (1 ≤ sSc ρ 0 ∧ sSc ρ 0 < 1000) ∧ (∀ m, sSt ρ m = 0 → sSn ρ m = -1) ∧ (∀ m, sSn ρ m = -1 ∨ ∃ y, y < b ∧ sSn ρ m = nI y) ∧ (∀ m k y, 1 ≤ y → y < b → sSn ρ m = nI y → sSn ρ k = nI y → m = k) ∧ sSc ρ 5 ≤ 12
def okW (α : sA) (n : Nat) (ρ : sR) : Prop := okB α n (sSc ρ 0) ρ
def okR (α : sA) (ρ : sR) : Prop := okW α (α 0 2) ρ
end
