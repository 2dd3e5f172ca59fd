/-! PATRONS -/
section
def cO (c : Nat) : Option Nat := if c = 0 then none else some (c - 1)
theorem cO_oI (c : Nat) : nI c - 1 = oI (cO c) := by
  unfold cO
  by_cases h : c = 0
  · rw [if_pos h, h]
    rfl
  · rw [if_neg h, i_1, nI_sub' (by omega)]
    rfl
theorem cO_lt {c : Nat} (h : c < 17) : ∀ m, cO c = some m → m < 16 := by
  intro m hm
  unfold cO at hm
  split at hm
  · cases hm
  · cases hm; omega
def sOpn (α : sA) (ρ : sR) (c : Nat) : Bool := decide (c = 0) || (decide (c ≤ α 0 1) && decide (sSt ρ (c - 1) = 0))
def sOt (α : sA) (l : sL) (ρ : sR) (x a b : Nat) : Option Nat := sOut α l ρ (cO a) (cO b) (nI x)
/-- all of them are so -/
def zal (p : Nat → Bool) : Nat → Nat → Bool
  | 0, _ => true
  | d + 1, c => p c && zal p d (c + 1)
theorem zal_iff (p : Nat → Bool) : ∀ d c, zal p d c = true ↔ ∀ x, c ≤ x → x < c + d → p x = true := by
  intro d
  induction d with
  | zero => intro c; exact ⟨fun _ x h1 h2 => absurd h2 (by omega), fun _ => rfl⟩
  | succ d ih =>
    intro c
    rw [zal, Bool.and_eq_true, ih]
    constructor
    · rintro ⟨h1, h2⟩ x h3 h4
      rcases Nat.eq_or_lt_of_le h3 with h | h
      · exact h ▸ h1
      · exact h2 x h (by omega)
    · intro h
      exact ⟨h c (Nat.le_refl _) (by omega), fun x h3 h4 => h x (by omega) (by omega)⟩
def sQok (α : sA) (l : sL) (ρ : sR) (x m o a b c : Nat) : Bool := !sOpn α ρ c || ((decide (sOt α l ρ x a b = some m) || !decide (sOt α l ρ x c b = some m)) && (decide (sOt α l ρ x a b = some o) || !decide (sOt α l ρ x a c = some o)))
def sQt (α : sA) (l : sL) (ρ : sR) (x m o a b : Nat) : Bool := zal (sQok α l ρ x m o a b) 17 0
def sQpS (α : sA) (l : sL) (ρ : sR) (x m o a b : Nat) (s : Nat × Int32) : Nat × Int32 := if (sOpn α ρ a && (sOpn α ρ b && sQt α l ρ x m o a b)) = true then (s.1 + 1, if s.1 = 0 then nI (100 * a + b) else s.2) else s
def sQpL (α : sA) (l : sL) (ρ : sR) (x m o N a : Nat) (s : Nat × Int32) : Nat × Int32 := zit (sQpS α l ρ x m o a) N 0 s
def sQp (α : sA) (l : sL) (ρ : sR) (x m o N : Nat) : Nat × Int32 := zit (sQpL α l ρ x m o N) N 0 (0, -1)
def sQpO (s : Nat × Int32) (what : Nat) : Int32 := if what = 0 then nI s.1 else s.2
theorem sQpS_le (α : sA) (l : sL) (ρ : sR) (x m o a b : Nat) (s : Nat × Int32) : (sQpS α l ρ x m o a b s).1 ≤ s.1 + 1 := by
  unfold sQpS
  split
  · exact Nat.le_refl _
  · exact Nat.le_succ _
theorem sQpL_le (α : sA) (l : sL) (ρ : sR) (x m o N a : Nat) (s : Nat × Int32) : (sQpL α l ρ x m o N a s).1 ≤ s.1 + N := by
  exact zit_inv (g := sQpS α l ρ x m o a) (fun j (t : Nat × Int32) => t.1 ≤ s.1 + j) N (fun j t _ ht => by have := sQpS_le α l ρ x m o a j t; omega) N 0 s (Nat.zero_add _) (Nat.le_refl _)
theorem zit_tail {σ : Type} {g : Nat → σ → σ} {n : Nat} (h : ∀ j s, n ≤ j → g j s = s) : ∀ d s, zit g (n + d) 0 s = zit g n 0 s := by
  intro d
  induction d with
  | zero => intro s; rfl
  | succ d ih => intro s; rw [← Nat.add_assoc, zit_end, ih, h _ _ (by omega)]
theorem sOpn_out {α : sA} {ρ : sR} {c : Nat} (h : α 0 1 < c) : sOpn α ρ c = false := by
  unfold sOpn
  rw [decide_eq_false (show ¬ c = 0 by omega), decide_eq_false (show ¬ c ≤ α 0 1 by omega)]
  rfl
theorem sQp_N {α : sA} (hM : α 0 1 ≤ 16) (l : sL) (ρ : sR) (x m o : Nat) : sQp α l ρ x m o 17 = sQp α l ρ x m o (α 0 1 + 1) := by
  obtain ⟨d, hd⟩ : ∃ d, 17 = (α 0 1 + 1) + d := ⟨16 - α 0 1, by omega⟩
  have hL : ∀ a s, sQpL α l ρ x m o 17 a s = sQpL α l ρ x m o (α 0 1 + 1) a s := fun a s => by
    unfold sQpL
    rw [hd]
    exact zit_tail (fun j t hj => by
      unfold sQpS
      rw [sOpn_out (ρ := ρ) (c := j) (by omega), Bool.false_and, Bool.and_false]
      rfl) d s
  unfold sQp
  rw [show sQpL α l ρ x m o 17 = sQpL α l ρ x m o (α 0 1 + 1) from funext fun a => funext fun s => hL a s, hd]
  refine zit_tail (fun a s ha => ?_) d _
  unfold sQpL
  have : ∀ n t, zit (sQpS α l ρ x m o a) n 0 t = t := by
    intro n
    induction n with
    | zero => intro t; rfl
    | succ n ih =>
      intro t
      rw [zit_end, ih]
      unfold sQpS
      rw [sOpn_out (ρ := ρ) (c := a) (by omega), Bool.false_and]
      rfl
  exact this _ _
/-! the class: it fills its table -/
theorem p_raise2 (a : Option Nat) (ha : ∀ m, a = some m → m < 16) (x : Int32) (v : zV) : ∃ w, fX4_raise 52 (oI a) x v = some w ∧ (∀ c, c ≠ 51 → w c = v c) ∧ ∀ k, w 51 k = v 51 k + if a = some k then x else 0 := by
  refine ⟨_, p_raise a ha x v, fun c hc => ?_, fun k => ?_⟩
  · cases a with
    | none => rfl
    | some m => exact p_up_a _ _ _ hc
  · cases a with
    | none =>
      rw [if_neg (fun q => by cases q)]
      exact (Int32.add_zero _).symm
    | some m =>
      show zup v 51 m (v 51 m + x) 51 k = _
      rw [p_up]
      by_cases e : k = m
      · rw [if_pos ⟨rfl, e⟩, if_pos (by rw [e]), e]
      · rw [if_neg (fun q => e q.2), if_neg (fun q => by cases q; exact e rfl)]
        exact (Int32.add_zero _).symm
theorem undo4 (b A B A' B' : Int32) (h1 : A + A' = 0) (h2 : B + B' = 0) : b + A + B + A' + B' = b := by
  have : b + A + B + A' + B' = b + (A + A') + (B + B') := by ac_rfl
  rw [this, h1, h2, Int32.add_zero, Int32.add_zero]
theorem ifneg (c : Prop) [Decidable c] (x : Int32) : (if c then x else 0) + (if c then -x else 0) = 0 := by
  split
  · exact Int32.add_right_neg x
  · rfl
/-- the class's scores as they are, and its table ahead of (a, b) -/
def okTb (v0 : zV) (α : sA) (l : sL) (ρ : sR) (x : Nat) (base : Nat → Int32) (N : Nat) (w : zV) : Prop := okSc v0 α l ρ w ∧ (∀ k, w 51 k = base k) ∧ ∀ a b, a < 17 → b < 17 → a * 17 + b < N → w 60 (a * 17 + b) = oI (sOt α l ρ x a b)
theorem p_fillS {v0 : zV} {α : sA} {l : sL} {ρ : sR} (ho : OKs α l ρ) {x : Nat} {base : Nat → Int32} (hb : ∀ k, k < α 0 1 → sSt (sTell α ρ) k = 0 → base k = sScore α l (sTell α ρ) k) {a b : Nat} (ha : a < 17) (hb17 : b < 17) {w : zV} (h : okTb v0 α l ρ x base (a * 17 + b) w) (K : zV → Option (Int32 × zV)) : ∃ u, (zbindv (fX4_raise 52 (nI a - 1) (nI x) w) fun v_1 => zbindv (fX4_raise 52 (nI b - 1) (nI x) v_1) fun v_2 => zbind (fX2_choose (zrf 52 1) (zrf 52 3) v_2) fun r_4 v_3 => zbindv (fX9_set (zrf 52 5) (nI a * 17 + nI b) r_4 v_3) fun v_5 => zbindv (fX4_raise 52 (nI a - 1) (-nI x) v_5) fun v_6 => zbindv (fX4_raise 52 (nI b - 1) (-nI x) v_6) fun v_7 => K v_7) = K u ∧ okTb v0 α l ρ x base (a * 17 + b + 1) u := by
  obtain ⟨hS, h51, h60⟩ := h
  have hoT := (sTell_ok ho.1 ho.2.2.1).1
  rw [cO_oI, cO_oI]
  obtain ⟨w1, hw1, a1, k1⟩ := p_raise2 (cO a) (cO_lt ha) (nI x) w
  obtain ⟨w2, hw2, a2, k2⟩ := p_raise2 (cO b) (cO_lt hb17) (nI x) w1
  have f2 : ∀ c, c ≠ 51 → w2 c = w c := fun c g => (a2 c g).trans (a1 c g)
  have fr2 : frC w w2 := fun c _ _ g => f2 c (by omega)
  have hch := p_choose r53 ho.1 (CE_f hS.1 fr2).1 (RC_fr hS.2.1 (fun c g1 g2 => f2 c (by omega))) (ok_13 ho.1) hoT (fun k => sScore α l (sTell α ρ) k + sBo (cO a) (cO b) (nI x) k) (fun k hk hs => by
    rw [k2 k, k1 k, h51 k, hb k hk hs, Int32.add_assoc]
    rfl)
  rw [hw1, zbindv_some, hw2, zbindv_some, rf_52_1, rf_52_3, hch, zbind_some, rf_52_5, i_17, pk_mul, nI_add, p_set (by rw [ln_60]; omega), zbindv_some]
  generalize hw3 : zup w2 60 (a * 17 + b) (oI (sOt α l ρ x a b)) = w3
  obtain ⟨w4, hw4, a4, k4⟩ := p_raise2 (cO a) (cO_lt ha) (-nI x) w3
  obtain ⟨w5, hw5, a5, k5⟩ := p_raise2 (cO b) (cO_lt hb17) (-nI x) w4
  have e3 : zup w2 60 (a * 17 + b) (oI (sChoose α (sTell α ρ) fun k => sScore α l (sTell α ρ) k + sBo (cO a) (cO b) (nI x) k)) = w3 := hw3
  refine ⟨w5, by rw [e3, hw4, zbindv_some, hw5, zbindv_some], ?_, fun k => ?_, fun a' b' g1 g2 g3 => ?_⟩
  · have f5 : ∀ c, c ≠ 51 → c ≠ 60 → w5 c = w c := fun c g1 g2 => by rw [a5 c g1, a4 c g1, ← hw3, p_up_a _ _ _ g2, f2 c g1]
    have fr5 : frC w w5 := fun c _ _ g => f5 c (by omega) (by omega)
    exact ⟨CE_f hS.1 fr5, RC_fr hS.2.1 (fun c g1 g2 => f5 c (by omega) (by omega)), frC_tr hS.2.2 fr5⟩
  · rw [k5 k, k4 k, ← hw3, p_up_a _ _ _ (by decide), k2 k, k1 k, h51 k]
    exact undo4 _ _ _ _ _ (ifneg _ _) (ifneg _ _)
  · rw [a5 60 (by decide), a4 60 (by decide), ← hw3, p_up]
    by_cases e : a' * 17 + b' = a * 17 + b
    · have ea : a' = a := by omega
      have eb : b' = b := by omega
      rw [if_pos ⟨rfl, e⟩, ea, eb]
    · rw [if_neg (fun q => e q.2), f2 60 (by decide)]
      exact h60 a' b' g1 g2 (by omega)
theorem p_fillI {v0 : zV} {α : sA} {l : sL} {ρ : sR} (ho : OKs α l ρ) {x : Nat} {base : Nat → Int32} (hb : ∀ k, k < α 0 1 → sSt (sTell α ρ) k = 0 → base k = sScore α l (sTell α ρ) k) (K7 : Nat → Int32 → Int32 → Int32 → Int32 → Int32 → zV → Option (Int32 × zV)) (m o wh : Int32) {a : Nat} (ha : a < 17) : ∀ (d n b : Nat) (w : zV), b + d = 17 → d < n → okTb v0 α l ρ x base (a * 17 + b) w → ∃ u, fX4_quietPairs_17 K7 n 52 m o (nI x) wh (nI a) (nI b) w = K7 52 m o (nI x) wh (nI (a + 1)) u ∧ okTb v0 α l ρ x base ((a + 1) * 17) u := by
  intro d
  induction d with
  | zero =>
    intro n b w hbd hn h
    obtain ⟨n, rfl⟩ : ∃ k, n = k + 1 := ⟨n - 1, by omega⟩
    obtain rfl : b = 17 := by omega
    refine ⟨w, ?_, by rw [Nat.add_mul]; exact h⟩
    rw [fX4_quietPairs_17]
    dsimp only
    rw [if_pos (by decide), nI_1]
  | succ d ih =>
    intro n b w hbd hn h
    obtain ⟨n, rfl⟩ : ∃ k, n = k + 1 := ⟨n - 1, by omega⟩
    obtain ⟨u, hu, hut⟩ := p_fillS ho hb ha (b := b) (by omega) h (fun v_7 => (fX4_quietPairs_17 K7 n) 52 m o (nI x) wh (nI a) (nI b + 1) v_7)
    obtain ⟨y, hy, hyt⟩ := ih n (b + 1) u (by omega) (by omega) hut
    refine ⟨y, ?_, hyt⟩
    rw [fX4_quietPairs_17]
    dsimp only
    rw [if_neg (show ¬ (17 : Int32) ≤ nI b from nI_ge (b := 17) (by omega) (by decide))]
    refine hu.trans ?_
    rw [nI_1]
    exact hy
theorem p_isOpen {v0 w : zV} {α : sA} {l : sL} {ρ : sR} (h : CQ v0 α l ρ) (ho : OKs α l ρ) (hf : frC v0 w) {c : Nat} (hc : c < 17) : fX4_isOpen 52 (nI c) w = some (if sOpn α ρ c = true then 1 else 0, w) := by
  have hE := eqC_of (CQ_f h hf) ho
  have hM := ho.1.1.2.1
  unfold fX4_isOpen sOpn
  rw [rf_52_0, rf_52_2, hE.1]
  by_cases h0 : c = 0
  · rw [h0, if_pos (show nI 0 = (0 : Int32) from rfl)]
    rfl
  · rw [if_neg (show ¬ nI c = 0 from nI_ne0 (by omega) (by omega)), decide_eq_false h0, Bool.false_or, i_1, nI_sub' (by omega)]
    by_cases h1 : c ≤ α 0 1
    · rw [if_neg (nI_nlt h1 (by omega)), hE.2.2.2.2.1 (c - 1) (by omega), decide_eq_true h1, Bool.true_and]
      simp only [zbind_some, i_0, i_1, zb_eq, decide_eq_true_eq]
      by_cases h2 : sSt ρ (c - 1) = 0
      · rw [if_neg (fun q => q h2), if_pos h2]
      · rw [if_pos h2, if_neg h2]
    · rw [if_pos (nI_lt (by omega) (by omega)), decide_eq_false h1]
      rfl
theorem p_isQuiet {v0 w : zV} {α : sA} {l : sL} {ρ : sR} (h : CQ v0 α l ρ) (ho : OKs α l ρ) (hf : frC v0 w) {x m o : Nat} (h60 : ∀ a b, a < 17 → b < 17 → w 60 (a * 17 + b) = oI (sOt α l ρ x a b)) {a b : Nat} (ha : a < 17) (hb : b < 17) (hm : m < 16) (hoo : o < 16) : fX4_isQuiet 52 (nI a) (nI b) (nI m) (nI o) w = some (if sQt α l ρ x m o a b = true then 1 else 0, w) := by
  have hlt : ∀ a b, ∀ k, sOt α l ρ x a b = some k → k < 2 ^ 31 := fun a b k hk => sOut_lt ho.1 k hk
  have hcm : ∀ a b k, k < 16 → (oI (sOt α l ρ x a b) = nI k) = (sOt α l ρ x a b = some k) := fun a b k hk => oI_inj (hlt a b) (b := some k) (fun j hj => by cases hj; omega)
  have hget : ∀ a b, a < 17 → b < 17 → fX9_get 60 (nI a * 17 + nI b) w = some (oI (sOt α l ρ x a b), w) := fun a b g1 g2 => by
    rw [i_17, pk_mul, nI_add, p_get (by rw [ln_60]; omega), h60 a b g1 g2]
  unfold fX4_isQuiet sQt
  rw [rf_52_5, hget a b ha hb, zbind_some]
  have : ∀ (d n c : Nat), c + d = 17 → d < n → fX4_isQuiet_18 n 52 (nI a) (nI b) (nI m) (nI o) (oI (sOt α l ρ x a b)) (nI c) w = some (if zal (sQok α l ρ x m o a b) d c = true then 1 else 0, w) := by
    intro d
    induction d with
    | zero =>
      intro n c hc hn
      obtain ⟨n, rfl⟩ : ∃ k, n = k + 1 := ⟨n - 1, by omega⟩
      obtain rfl : c = 17 := by omega
      rw [fX4_isQuiet_18]
      dsimp only
      rw [if_pos (by decide)]
      rfl
    | succ d ih =>
      intro n c hc hn
      obtain ⟨n, rfl⟩ : ∃ k, n = k + 1 := ⟨n - 1, by omega⟩
      have hi := ih n (c + 1) (by omega) (by omega)
      rw [fX4_isQuiet_18]
      dsimp only
      have g1 := hget a c ha (show c < 17 by omega)
      have g2 := hget c b (show c < 17 by omega) hb
      have g3 := p_isOpen h ho hf (show c < 17 by omega)
      rw [if_neg (show ¬ (17 : Int32) ≤ nI c from nI_ge (b := 17) (by omega) (by decide)), zal]
      unfold fX4_isQuiet_63
      simp only [g3, zbind_some, rf_52_5, g1, g2, i_0, i_1, zb_eq, hcm _ _ _ hm, hcm _ _ _ hoo, nI_add] at hi ⊢
      rw [hi]
      generalize zal (sQok α l ρ x m o a b) d (c + 1) = Z
      unfold sQok
      cases e0 : sOpn α ρ c with
      | false =>
        rw [if_pos (show ¬ (false = true) by decide)]
        rfl
      | true =>
        rw [if_neg (show ¬ ¬ (true = true) by decide)]
        by_cases e2 : sOt α l ρ x a b = some o
        · rw [decide_eq_true e2, Bool.true_or, Bool.and_true, if_pos e2]
          by_cases e1 : sOt α l ρ x a b = some m
          · rw [if_pos e1, decide_eq_true e1]
            rfl
          · rw [if_neg e1, decide_eq_false e1]
            by_cases e4 : sOt α l ρ x c b = some m
            · rw [if_pos e4, decide_eq_true e4]
              rfl
            · rw [if_neg e4, decide_eq_false e4]
              rfl
        · rw [decide_eq_false e2, Bool.false_or, if_neg e2]
          by_cases e3 : sOt α l ρ x a c = some o
          · rw [decide_eq_true e3, if_pos e3]
            have hz : ∀ y : Bool, ((!true || (y && !true)) && Z) = false := fun y => by cases y <;> rfl
            rw [hz]
            split
            · rfl
            · split <;> rfl
          · rw [decide_eq_false e3, if_neg e3]
            by_cases e1 : sOt α l ρ x a b = some m
            · rw [if_pos e1, decide_eq_true e1]
              rfl
            · rw [if_neg e1, decide_eq_false e1]
              by_cases e4 : sOt α l ρ x c b = some m
              · rw [if_pos e4, decide_eq_true e4]
                rfl
              · rw [if_neg e4, decide_eq_false e4]
                rfl
  exact this 17 zFU 0 rfl (by unfold zFU; omega)
end
