/-! BELIEFS as values: all sides, the last question's turning first -/
section
def dgBl (s : Nat → Nat) : Nat → Nat → Nat → Nat
  | 0, _, _ => 0
  | k + 1, x, q => if q = k then x % s k else dgBl s k (x / s k) q
def prBl (s : Nat → Nat) : Nat → Nat
  | 0 => 1
  | k + 1 => prBl s k * s k
def dcBl (f : Nat → Nat) : Nat → Nat
  | 0 => 0
  | k + 1 => dcBl f k * 10 + f k
theorem decB_cg {f g : Nat → Nat} : ∀ n, (∀ q, q < n → f q = g q) → dcBl f n = dcBl g n := by
  intro n
  induction n with
  | zero => intro _; rfl
  | succ n ih => intro h; rw [dcBl, dcBl, ih (fun q hq => h q (by omega)), h n (by omega)]
theorem decB_lt {f : Nat → Nat} : ∀ n, (∀ q, q < n → f q < 4) → dcBl f n < 10 ^ n := by
  intro n
  induction n with
  | zero => intro _; exact Nat.one_pos
  | succ n ih =>
    intro h
    have h1 := ih (fun q hq => h q (by omega))
    have h2 := h n (by omega)
    rw [dcBl, Nat.pow_succ]
    omega
theorem dgB_lt {s : Nat → Nat} : ∀ k x q, (∀ q, q < k → 0 < s q) → q < k → dgBl s k x q < s q := by
  intro k
  induction k with
  | zero => intro x q _ hq; exact absurd hq (Nat.not_lt_zero q)
  | succ k ih =>
    intro x q h hq
    rw [dgBl]
    by_cases c : q = k
    · rw [if_pos c, c]; exact Nat.mod_lt _ (h k (by omega))
    · rw [if_neg c]
      exact ih _ q (fun q hq => h q (by omega)) (by omega)
theorem dgB_out {s : Nat → Nat} : ∀ k x q, k ≤ q → dgBl s k x q = 0 := by
  intro k
  induction k with
  | zero => intro x q _; rfl
  | succ k ih =>
    intro x q hq
    rw [dgBl, if_neg (by omega)]
    exact ih _ q (by omega)
theorem dgB_low {s : Nat → Nat} {k x q : Nat} (h : q < k) : dgBl s (k + 1) x q = dgBl s k (x / s k) q := if_neg (by omega)
theorem dgB_top {s : Nat → Nat} {k x : Nat} : dgBl s (k + 1) x k = x % s k := if_pos rfl
theorem dgB_0 {s : Nat → Nat} : ∀ k q, dgBl s k 0 q = 0 := by
  intro k
  induction k with
  | zero => intro q; rfl
  | succ k ih =>
    intro q
    rw [dgBl, Nat.zero_mod, Nat.zero_div, ih]
    split <;> rfl
theorem prB_pos {s : Nat → Nat} : ∀ k, (∀ q, q < k → 0 < s q) → 0 < prBl s k := by
  intro k
  induction k with
  | zero => intro _; exact Nat.one_pos
  | succ k ih => intro h; exact Nat.mul_pos (ih (fun q hq => h q (by omega))) (h k (by omega))
theorem prB_le {s : Nat → Nat} : ∀ k, (∀ q, q < k → s q ≤ 3) → prBl s k ≤ 3 ^ k := by
  intro k
  induction k with
  | zero => intro _; exact Nat.le_refl _
  | succ k ih => intro h; rw [prBl, Nat.pow_succ]; exact Nat.mul_le_mul (ih (fun q hq => h q (by omega))) (h k (by omega))
/-- the code of a man's sides -/
def cdBl (s : Nat → Nat) (k x : Nat) : Nat := sCF (dgBl s k x) k
theorem cdB_succ (s : Nat → Nat) (k x : Nat) : cdBl s (k + 1) x = cdBl s k (x / s k) + x % s k * 4 ^ k := by
  unfold cdBl
  rw [sCF, dgB_top, sCF_cg (g := dgBl s k (x / s k)) k (fun q hq => dgB_low hq)]
theorem cdB_lt {s : Nat → Nat} {k : Nat} (x : Nat) (h : ∀ q, q < k → 0 < s q ∧ s q ≤ 3) : cdBl s k x < 4 ^ k := sCF_lt k (fun q hq => by
  have h1 := dgB_lt (s := s) k x q (fun q hq => (h q hq).1) hq
  have := (h q hq).2
  omega)
/-- the sides behind these: one question's side turns, or the one ahead of it does -/
theorem cdB_turn {s : Nat → Nat} {k x : Nat} (h0 : 0 < s k) (h : x % s k + 1 < s k) : cdBl s (k + 1) (x + 1) = cdBl s (k + 1) x + 4 ^ k := by
  have e1 : (x + 1) % s k = x % s k + 1 := by rw [Nat.add_mod, Nat.mod_eq_of_lt (a := 1) (by omega), Nat.mod_eq_of_lt h]
  have e2 : (x + 1) / s k = x / s k := by
    refine Nat.div_eq_of_lt_le ?_ ?_
    · have := Nat.div_mul_le_self x (s k); omega
    · have h3 := Nat.div_add_mod x (s k)
      rw [Nat.succ_mul, Nat.mul_comm]
      omega
  rw [cdB_succ, cdB_succ, e1, e2, Nat.add_mul]
  omega
theorem cdB_carry {s : Nat → Nat} {k x : Nat} (h0 : 0 < s k) (h : ¬ x % s k + 1 < s k) : cdBl s (k + 1) (x + 1) = cdBl s k (x / s k + 1) ∧ x + 1 = (x / s k + 1) * s k := by
  have h1 := Nat.mod_lt x h0
  have h3 := Nat.div_add_mod x (s k)
  have e : x + 1 = (x / s k + 1) * s k := by
    rw [Nat.succ_mul, Nat.mul_comm (x / s k)]
    omega
  refine ⟨?_, e⟩
  rw [cdB_succ, e, Nat.mul_mod_left, Nat.mul_div_cancel _ h0]
  omega
theorem prB_turn {s : Nat → Nat} {k x : Nat} (h0 : 0 < s k) (h : x % s k + 1 < s k) (hx : x < prBl s (k + 1)) : x + 1 < prBl s (k + 1) := by
  rw [prBl] at hx ⊢
  have h3 := Nat.div_add_mod x (s k)
  have h4 : x / s k < prBl s k := by
    rw [Nat.div_lt_iff_lt_mul h0]
    exact hx
  have h5 : (x / s k + 1) * s k ≤ prBl s k * s k := Nat.mul_le_mul_right _ h4
  rw [Nat.succ_mul, Nat.mul_comm (x / s k)] at h5
  omega
theorem prB_carry {s : Nat → Nat} {k x : Nat} (h0 : 0 < s k) (h : ¬ x % s k + 1 < s k) : x + 1 < prBl s (k + 1) ↔ x / s k + 1 < prBl s k := by
  rw [(cdB_carry h0 h).2, prBl]
  exact Nat.mul_lt_mul_right h0
/-- a man believes otherwise -/
def sWith (α : sA) (m x : Nat) : sA := sUp α (10 + m) (dgBl (α 1) (α 0 0) x)
theorem sWith_n (α : sA) (m x : Nat) {i : Nat} (h : i ≠ 10 + m) : sWith α m x i = α i := sUp_n α _ h
theorem sWith_s (α : sA) (m x : Nat) : sWith α m x (10 + m) = dgBl (α 1) (α 0 0) x := sUp_s α _ _
theorem sWith_0 (α : sA) (m x : Nat) : sWith α m x 0 = α 0 := sWith_n α m x (by omega)
theorem sWith_1 (α : sA) (m x : Nat) : sWith α m x 1 = α 1 := sWith_n α m x (by omega)
theorem sWith_3 (α : sA) (m x : Nat) : sWith α m x 3 = α 3 := sWith_n α m x (by omega)
theorem okA_side {α : sA} (ha : okA α) : ∀ q, q < α 0 0 → 0 < α 1 q ∧ α 1 q ≤ 3 := fun q hq => ⟨by have := (ha.2.1 q hq).1; omega, (ha.2.1 q hq).2⟩
theorem okA_with {α : sA} (ha : okA α) {m : Nat} (hm : m < α 0 1) (x : Nat) : okA (sWith α m x) := by
  have hM := ha.1.2.1
  have hs := okA_side ha
  obtain ⟨h0, h1, h2, h3, h4, h5, h6, h7⟩ := ha
  unfold okA
  rw [sWith_0, sWith_1, sWith_3, sWith_n α m x (i := 2) (by omega)]
  refine ⟨h0, h1, h2, h3, h4, fun j hj q hq => ?_, fun k hk => ?_, fun k hk => ?_⟩
  · by_cases c : j = m
    · rw [c, sWith_s]
      exact dgB_lt _ _ _ (fun q hq => (hs q hq).1) hq
    · rw [sWith_n α m x (by omega)]
      exact h5 j hj q hq
  · rw [sWith_n α m x (by omega)]
    exact h6 k hk
  · rw [sWith_n α m x (by omega)]
    exact h7 k hk
theorem okBk_with {α : sA} {β : sB} (hb : okBk α β) (m x : Nat) : okBk (sWith α m x) β := by
  unfold okBk
  rw [sWith_0]
  exact hb
theorem sOpen_with (α : sA) (m x : Nat) : sOpen (sWith α m x) = sOpen α := by
  unfold sOpen
  rw [sWith_0, sWith_3]
theorem pCode_with {α : sA} (m x : Nat) : pCode (sWith α m x) m = cdBl (α 1) (α 0 0) x := by
  unfold pCode cdBl
  rw [sWith_0, sWith_s]
theorem pCode_other {α : sA} {m j : Nat} (x : Nat) (h : j ≠ m) : pCode (sWith α m x) j = pCode α j := by
  unfold pCode
  rw [sWith_0, sWith_n α m x (by omega)]
/-- the tries: how many ways, the first, the sides seen (bits) -/
abbrev sTR : Type := Nat × Int32 × (Nat → Nat)
def sTryS (α : sA) (l : sL) (β : sB) (m x : Nat) (s : sTR) : sTR := if sHold (sWith α m x) l β none = true then (s.1 + 1, (if s.1 = 0 then nI (dcBl (dgBl (α 1) (α 0 0) x) (α 0 0)) else s.2.1), fun q => if q < α 0 0 then s.2.2 q ||| 2 ^ dgBl (α 1) (α 0 0) x q else s.2.2 q) else s
def sTry (α : sA) (l : sL) (β : sB) (m : Nat) : sTR := zit (sTryS α l β m) (prBl (α 1) (α 0 0)) 0 (0, -1, fun _ => 0)
/-- what the bits of the sides seen tell: no side, one alone, more -/
def agB (b : Nat) : Int32 := if b = 0 then -nI 9 else if b = 1 then nI 0 else if b = 2 then nI 1 else if b = 4 then nI 2 else -nI 1
theorem agB_step : ∀ b, b < 8 → ∀ d, d < 3 → (if agB b = -nI 9 then nI d else if agB b = nI d then nI d else -nI 1) = agB (b ||| 2 ^ d) := by decide
theorem or8 : ∀ b, b < 8 → ∀ d, d < 3 → b ||| 2 ^ d < 8 ∧ 0 < b ||| 2 ^ d := by decide
/-- what the tries may be; at j of them -/
def okTR (α : sA) (j : Nat) (s : sTR) : Prop := s.1 ≤ j ∧ (∀ q, s.2.2 q < 8) ∧ (∀ q, q < α 0 0 → (s.1 = 0 ↔ s.2.2 q = 0))
theorem okTR_0 (α : sA) : okTR α 0 (0, -1, fun _ => 0) := ⟨Nat.le_refl _, fun _ => by show (0 : Nat) < 8; omega, fun q _ => ⟨fun _ => rfl, fun _ => rfl⟩⟩
theorem okTR_s {α : sA} (ha : okA α) (l : sL) (β : sB) (m j : Nat) {s : sTR} (h : okTR α j s) : okTR α (j + 1) (sTryS α l β m j s) := by
  have hs := okA_side ha
  have hd : ∀ q, q < α 0 0 → dgBl (α 1) (α 0 0) j q < 3 := fun q hq => by
    have h1 := dgB_lt (s := α 1) (α 0 0) j q (fun q hq => (hs q hq).1) hq
    have := (hs q hq).2
    omega
  unfold sTryS
  by_cases c : sHold (sWith α m j) l β none = true
  · rw [if_pos c]
    refine ⟨by have := h.1; show s.1 + 1 ≤ j + 1; omega, fun q => ?_, fun q hq => ⟨fun g => ?_, fun g => ?_⟩⟩
    · show (if q < α 0 0 then s.2.2 q ||| 2 ^ dgBl (α 1) (α 0 0) j q else s.2.2 q) < 8
      by_cases c2 : q < α 0 0
      · rw [if_pos c2]
        exact (or8 _ (h.2.1 q) _ (hd q c2)).1
      · rw [if_neg c2]
        exact h.2.1 q
    · have g2 : s.1 + 1 = 0 := g
      omega
    · have g2 : (if q < α 0 0 then s.2.2 q ||| 2 ^ dgBl (α 1) (α 0 0) j q else s.2.2 q) = 0 := g
      rw [if_pos hq] at g2
      have := (or8 _ (h.2.1 q) _ (hd q hq)).2
      omega
  · rw [if_neg c]
    exact ⟨by have := h.1; omega, h.2⟩
theorem okTR_try {α : sA} (ha : okA α) (l : sL) (β : sB) (m : Nat) : okTR α (prBl (α 1) (α 0 0)) (sTry α l β m) := zit_inv (fun j s => okTR α j s) (prBl (α 1) (α 0 0)) (fun j s _ h => okTR_s ha l β m j h) (prBl (α 1) (α 0 0)) 0 _ (Nat.zero_add _) (okTR_0 α)
theorem prB_729 {α : sA} (ha : okA α) : prBl (α 1) (α 0 0) ≤ 729 := by
  have h1 := prB_le (s := α 1) (α 0 0) (fun q hq => (okA_side ha q hq).2)
  have h2 : 3 ^ α 0 0 ≤ 3 ^ 6 := Nat.pow_le_pow_right (by decide) ha.1.1
  omega
end
