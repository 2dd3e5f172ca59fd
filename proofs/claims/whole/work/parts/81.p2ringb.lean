section
/-! RING, RINGED -/
def zpw (g : Nat → Nat) : Nat → Nat → Nat
  | 0, x => x
  | k + 1, x => g (zpw g k x)
theorem zpw_add (g : Nat → Nat) (i j x : Nat) : zpw g (i + j) x = zpw g i (zpw g j x) := by
  induction i with
  | zero => rw [Nat.zero_add]; rfl
  | succ i ih => rw [Nat.succ_add]; show g (zpw g (i + j) x) = g (zpw g i (zpw g j x)); rw [ih]
theorem rg_pig : ∀ (M k : Nat) (h : Nat → Nat), (∀ i, i < k → h i < M) → (∀ i j, i < j → j < k → h i ≠ h j) → k ≤ M := by
  intro M
  induction M with
  | zero =>
    intro k h h1 _
    rcases Nat.eq_zero_or_pos k with q | q
    · omega
    · exact absurd (h1 0 q) (Nat.not_lt_zero _)
  | succ M ih =>
    intro k h h1 h2
    cases k with
    | zero => exact Nat.zero_le _
    | succ k =>
      refine Nat.succ_le_succ (ih k (fun i => if h i = M then h k else h i) (fun i hi => ?_) (fun i j hij hj => ?_))
      · have a1 := h1 i (by omega)
        have a2 := h1 k (by omega)
        have a3 := h2 i k hi (by omega)
        show (if h i = M then h k else h i) < M
        split <;> omega
      · have a1 := h2 i j hij (by omega)
        have a2 := h2 i k (by omega) (by omega)
        have a3 := h2 j k hj (by omega)
        show (if h i = M then h k else h i) ≠ (if h j = M then h k else h j)
        split <;> split <;> omega
theorem rg_min {P : Nat → Prop} : ∀ n, 1 ≤ n → P n → ∃ p, 1 ≤ p ∧ p ≤ n ∧ P p ∧ ∀ i, 1 ≤ i → i < p → ¬ P i := by
  intro n
  induction n using Nat.strongRecOn with
  | _ n ih =>
    intro h1 hP
    by_cases q : ∃ i, 1 ≤ i ∧ i < n ∧ P i
    · obtain ⟨i, i1, i2, i3⟩ := q
      obtain ⟨p, p1, p2, p3, p4⟩ := ih i i2 i1 i3
      exact ⟨p, p1, by omega, p3, p4⟩
    · exact ⟨n, h1, Nat.le_refl _, hP, fun i i1 i2 hi => q ⟨i, i1, i2, hi⟩⟩
theorem zpw_lt {g : Nat → Nat} {M : Nat} (hg : ∀ m, m < M → g m < M) {x : Nat} (hx : x < M) : ∀ k, zpw g k x < M := by
  intro k
  induction k with
  | zero => exact hx
  | succ k ih => exact hg _ ih
theorem rg_per {g : Nat → Nat} {M : Nat} (hg : ∀ m, m < M → g m < M) {x : Nat} (hx : x < M) : ∃ i j, i < j ∧ j ≤ M ∧ zpw g i x = zpw g j x := by
  by_cases q : ∃ i j, i < j ∧ j ≤ M ∧ zpw g i x = zpw g j x
  · exact q
  · have := rg_pig M (M + 1) (fun k => zpw g k x) (fun k _ => zpw_lt hg hx k) (fun i j hij hj e => q ⟨i, j, hij, by omega, e⟩)
    omega
/-- a ring: its length, its men -/
def isRG (g : Nat → Nat) (x p : Nat) : Prop := 1 ≤ p ∧ zpw g p x = x ∧ ∀ i, 1 ≤ i → i < p → zpw g i x ≠ x
theorem rg_at {g : Nat → Nat} {M : Nat} (hg : ∀ m, m < M → g m < M) (hM : M ≤ 16) {x : Nat} (hx : x < M) : ∃ p, p ≤ 16 ∧ isRG g (zpw g 16 x) p := by
  obtain ⟨i, j, hij, hj, e⟩ := rg_per hg hx
  have e2 : zpw g (j - i) (zpw g 16 x) = zpw g 16 x := by
    rw [← zpw_add, show j - i + 16 = (16 - i) + j by omega, zpw_add, ← e, ← zpw_add, show 16 - i + i = 16 by omega]
  obtain ⟨p, p1, p2, p3, p4⟩ := rg_min (P := fun n => zpw g n (zpw g 16 x) = zpw g 16 x) (j - i) (by omega) e2
  exact ⟨p, by omega, p1, p3, p4⟩
theorem rg_dist {g : Nat → Nat} {x p : Nat} (h : isRG g x p) : ∀ i j, i < j → j < p → zpw g i x ≠ zpw g j x := by
  intro i j hij hj e
  refine h.2.2 (p - j + i) (by omega) (by omega) ?_
  rw [zpw_add, e, ← zpw_add, show p - j + j = p by omega, h.2.1]
theorem rg_mod {g : Nat → Nat} {x p : Nat} (h : isRG g x p) : ∀ n i, i ≤ n → ∃ r, r < p ∧ zpw g i x = zpw g r x := by
  intro n
  have h1 := h.1
  induction n with
  | zero => intro i hi; exact ⟨i, by omega, rfl⟩
  | succ n ih =>
    intro i hi
    by_cases q : i < p
    · exact ⟨i, q, rfl⟩
    · obtain ⟨r, r1, r2⟩ := ih (i - p) (by omega)
      exact ⟨r, r1, by rw [show i = (i - p) + p by omega, zpw_add, h.2.1, r2]⟩
theorem rg_mul {g : Nat → Nat} {x p : Nat} (h : zpw g p x = x) : ∀ k, zpw g (p * k) x = x := by
  intro k
  induction k with
  | zero => rfl
  | succ k ih => rw [Nat.mul_succ, zpw_add, h, ih]
theorem rg_le {g : Nat → Nat} {M : Nat} (hg : ∀ m, m < M → g m < M) {x p : Nat} (hx : x < M) (h : isRG g x p) : p ≤ M := rg_pig M p (fun k => zpw g k x) (fun k _ => zpw_lt hg hx k) (rg_dist h)
/-! bits of a few men -/
def bsO (h : Nat → Nat) : Nat → Nat
  | 0 => 0
  | n + 1 => bsO h n ||| 2 ^ h n
theorem bsO_lt (h : Nat → Nat) : ∀ n, (∀ i, i < n → h i < 16) → bsO h n < 2 ^ 16 := by
  intro n
  induction n with
  | zero => intro _; exact Nat.two_pow_pos 16
  | succ n ih => intro hh; exact Nat.or_lt_two_pow (ih (fun i hi => hh i (by omega))) (Nat.pow_lt_pow_right (by decide) (hh n (by omega)))
theorem bsO_bit (h : Nat → Nat) (n k : Nat) : (bsO h (n + 1)).testBit k = ((bsO h n).testBit k || decide (h n = k)) := by
  show (bsO h n ||| 2 ^ h n).testBit k = _
  rw [Nat.testBit_or, Nat.testBit_two_pow]
theorem bsO_at (h : Nat → Nat) (k : Nat) : ∀ n, ((bsO h n).testBit k = true ↔ ∃ i, i < n ∧ h i = k) := by
  intro n
  induction n with
  | zero =>
    constructor
    · intro q; rw [show bsO h 0 = 0 from rfl, Nat.zero_testBit] at q; cases q
    · intro ⟨i, hi, _⟩; exact absurd hi (Nat.not_lt_zero _)
  | succ n ih =>
    rw [bsO_bit, Bool.or_eq_true, ih, decide_eq_true_eq]
    constructor
    · intro q
      rcases q with ⟨i, hi, e⟩ | e
      · exact ⟨i, by omega, e⟩
      · exact ⟨n, by omega, e⟩
    · intro ⟨i, hi, e⟩
      by_cases q : i = n
      · exact Or.inr (q ▸ e)
      · exact Or.inl ⟨i, by omega, e⟩
theorem zcnt_cgb {p q : Nat → Bool} : ∀ n, (∀ k, k < n → p k = q k) → zcnt p n = zcnt q n := by
  intro n
  induction n with
  | zero => intro _; rfl
  | succ n ih => intro h; rw [zcnt, zcnt, ih (fun k hk => h k (by omega)), h n (by omega)]
theorem zcnt_ins {p : Nat → Bool} {c : Nat} (hp : p c = false) : ∀ n, zcnt (fun k => p k || decide (c = k)) n = zcnt p n + if c < n then 1 else 0 := by
  intro n
  induction n with
  | zero => rfl
  | succ n ih =>
    rw [zcnt, zcnt, ih]
    by_cases q : c = n
    · subst q
      rw [hp, if_neg (Nat.lt_irrefl c), if_pos (Nat.lt_succ_self c), decide_eq_true rfl, Bool.or_true]
      simp
    · rw [decide_eq_false q, Bool.or_false]
      by_cases q2 : c < n
      · rw [if_pos q2, if_pos (by omega : c < n + 1)]; omega
      · rw [if_neg q2, if_neg (by omega : ¬ c < n + 1)]
        rfl
theorem bsO_cnt (h : Nat → Nat) (N : Nat) : ∀ n, (∀ i, i < n → h i < N) → (∀ i j, i < j → j < n → h i ≠ h j) → zcnt (fun k => (bsO h n).testBit k) N = n := by
  intro n
  induction n with
  | zero => intro _ _; exact (zcnt_0 _ N).mpr (fun k _ => Nat.zero_testBit k)
  | succ n ih =>
    intro h1 h2
    rw [zcnt_cgb (q := fun k => (bsO h n).testBit k || decide (h n = k)) N (fun k _ => bsO_bit h n k), zcnt_ins (p := fun k => (bsO h n).testBit k), ih (fun i hi => h1 i (by omega)) (fun i j hij hj => h2 i j hij (by omega)), if_pos (h1 n (by omega))]
    cases q : (bsO h n).testBit (h n) with
    | false => rfl
    | true =>
      obtain ⟨i, hi, e⟩ := (bsO_at h (h n) n).mp q
      exact absurd e (h2 i n hi (by omega))
def rgLow (b : Nat) : Nat → Nat → Nat
  | 0, k => k
  | n + 1, k => if b.testBit k = true then k else rgLow b n (k + 1)
theorem rgLow_eq {b L : Nat} (hL : b.testBit L = true) (hk : ∀ k, k < L → b.testBit k = false) : ∀ n k, k ≤ L → L < k + n → rgLow b n k = L := by
  intro n
  induction n with
  | zero => intro k h1 h2; omega
  | succ n ih =>
    intro k h1 h2
    rw [rgLow]
    by_cases q : k = L
    · rw [q, if_pos hL]
    · rw [hk k (by omega), if_neg (by decide)]
      exact ih (k + 1) (by omega) (by omega)
/-- the men of a ring as bits -/
def rgS (g : Nat → Nat) (x : Nat) : Nat := bsO (fun i => zpw g i (g (zpw g 16 x))) 16
theorem rgS_at {g : Nat → Nat} {x p : Nat} (hp : p ≤ 16) (h : isRG g (zpw g 16 x) p) (k : Nat) : (rgS g x).testBit k = true ↔ ∃ i, i < p ∧ zpw g i (zpw g 16 x) = k := by
  unfold rgS
  rw [bsO_at]
  have h1 := h.1
  have e1 : ∀ i, zpw g i (g (zpw g 16 x)) = zpw g (i + 1) (zpw g 16 x) := fun i => by rw [zpw_add]; rfl
  constructor
  · intro ⟨i, hi, e⟩
    obtain ⟨r, r1, r2⟩ := rg_mod h (i + 1) (i + 1) (Nat.le_refl _)
    exact ⟨r, r1, by rw [← r2, ← e1]; exact e⟩
  · intro ⟨i, hi, e⟩
    by_cases q : i = 0
    · refine ⟨p - 1, by omega, ?_⟩
      show zpw g (p - 1) (g (zpw g 16 x)) = k
      rw [e1, show p - 1 + 1 = p by omega, h.2.1, ← e, q]
      rfl
    · refine ⟨i - 1, by omega, ?_⟩
      show zpw g (i - 1) (g (zpw g 16 x)) = k
      rw [e1, show i - 1 + 1 = i by omega, e]
theorem rgS_cnt {g : Nat → Nat} {M : Nat} (hg : ∀ m, m < M → g m < M) (hM : M ≤ 16) {x p : Nat} (hx : x < M) (hp : p ≤ 16) (h : isRG g (zpw g 16 x) p) : zcnt (fun k => (rgS g x).testBit k) 16 = p := by
  rw [zcnt_cgb (q := fun k => (bsO (fun i => zpw g i (zpw g 16 x)) p).testBit k) 16 (fun k _ => ?_)]
  · exact bsO_cnt _ 16 p (fun i _ => Nat.lt_of_lt_of_le (zpw_lt hg (zpw_lt hg hx 16) i) hM) (rg_dist h)
  · rw [Bool.eq_iff_iff, rgS_at hp h, bsO_at]
theorem rgS_lt {g : Nat → Nat} {M : Nat} (hg : ∀ m, m < M → g m < M) (hM : M ≤ 16) {x : Nat} (hx : x < M) : rgS g x < 2 ^ 16 := bsO_lt _ 16 (fun i _ => Nat.lt_of_lt_of_le (zpw_lt hg (hg _ (zpw_lt hg hx 16)) i) hM)
theorem rgS_low {g : Nat → Nat} {M : Nat} (hg : ∀ m, m < M → g m < M) (hM : M ≤ 16) {x p L : Nat} (hx : x < M) (hp : p ≤ 16) (h : isRG g (zpw g 16 x) p) (h1 : ∃ k, k < p ∧ L = zpw g k (zpw g 16 x)) (h2 : ∀ k, k < p → L ≤ zpw g k (zpw g 16 x)) : rgLow (rgS g x) 16 0 = L := by
  obtain ⟨k, k1, k2⟩ := h1
  have hL : L < M := k2 ▸ zpw_lt hg (zpw_lt hg hx 16) k
  refine rgLow_eq ((rgS_at hp h L).mpr ⟨k, k1, k2.symm⟩) (fun c hc => ?_) 16 0 (Nat.zero_le _) (by omega)
  cases q : (rgS g x).testBit c with
  | false => rfl
  | true =>
    obtain ⟨i, i1, i2⟩ := (rgS_at hp h c).mp q
    have := h2 i i1
    omega
end
