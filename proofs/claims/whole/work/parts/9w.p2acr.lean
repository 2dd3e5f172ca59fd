/-! ACADEMY: what its reading is -/
section
def aUp (α : sA) (i j x : Nat) : sA := fun a b => if a = i ∧ b = j then x else α a b
theorem aUp_s (α : sA) (i j x : Nat) : aUp α i j x i j = x := if_pos ⟨rfl, rfl⟩
theorem aUp_n (α : sA) {i j a b : Nat} (x : Nat) (h : a ≠ i ∨ b ≠ j) : aUp α i j x a b = α a b := if_neg (fun z => by rcases h with h | h; exact h z.1; exact h z.2)
def tKdA (L : List Nat) (τ : rdE) : Nat → Nat → Option Nat × rdE
  | 0, _ => (none, τ)
  | d + 1, k => if (tTk L (tW k) τ).1 = true then (some k, (tTk L (tW k) τ).2) else tKdA L τ d (k + 1)
def tKd (L : List Nat) (τ : rdE) : Option Nat × rdE := tKdA L τ 6 0
theorem tKdA_at {L : List Nat} {τ : rdE} {k : Nat} (h2 : (tTk L (tW k) τ).1 = true) : ∀ d k0, k0 ≤ k → k < k0 + d → (∀ j, k0 ≤ j → j < k → ¬ (tTk L (tW j) τ).1 = true) → tKdA L τ d k0 = (some k, (tTk L (tW k) τ).2) := by
  intro d
  induction d with
  | zero => intro k0 h1 h3; omega
  | succ d ih =>
    intro k0 h1 h3 hn
    rw [tKdA]
    by_cases e : k0 = k
    · rw [e, if_pos h2]
    · rw [if_neg (hn k0 (Nat.le_refl _) (by omega))]
      exact ih (k0 + 1) (by omega) (by omega) (fun j q1 q2 => hn j (by omega) q2)
theorem tKd_at {L : List Nat} {τ : rdE} {k : Nat} (hk : k < 6) (hn : ∀ j, j < k → ¬ (tTk L (tW j) τ).1 = true) (h : (tTk L (tW k) τ).1 = true) : tKd L τ = (some k, (tTk L (tW k) τ).2) := tKdA_at h 6 0 (Nat.zero_le _) (by omega) (fun j _ hj => hn j hj)
theorem tKdA_no {L : List Nat} {τ : rdE} : ∀ d k0, (∀ j, k0 ≤ j → j < k0 + d → ¬ (tTk L (tW j) τ).1 = true) → tKdA L τ d k0 = (none, τ) := by
  intro d
  induction d with
  | zero => intro k0 _; rfl
  | succ d ih =>
    intro k0 hn
    rw [tKdA, if_neg (hn k0 (Nat.le_refl _) (by omega))]
    exact ih (k0 + 1) (fun j q1 q2 => hn j (by omega) (by omega))
theorem tKd_no {L : List Nat} {τ : rdE} (hn : ∀ j, j < 6 → ¬ (tTk L (tW j) τ).1 = true) : tKd L τ = (none, τ) := tKdA_no 6 0 (fun j _ hj => hn j (by omega))
/-- one word alone stands at a place -/
theorem tIs_one {L W V : List Nat} {p : Nat} (h1 : tIs L p W = true) (h2 : tIs L p V = true) : W.length = V.length := by
  have a := tIs_we h1
  have b := tIs_we h2
  omega
def rQ (L : List Nat) (α : sA) (τ : rdE) : sA × rdE := (aUp (aUp α 1 (α 0 0) (tNum L 2 4 τ).1) 0 0 (α 0 0 + 1), (tNum L 2 4 τ).2)
def tBe (L : List Nat) (s : Nat → Nat) : Nat → Nat → (Nat → Nat) → rdE → (Nat → Nat) × rdE
  | 0, _, B, τ => (B, τ)
  | d + 1, q, B, τ => tBe L s d (q + 1) (sUp B q (tNum L 0 (s q) τ).1) (tNum L 0 (s q) τ).2
def tBs (L : List Nat) (α : sA) (τ : rdE) : (Nat → Nat) × rdE := tBe L (α 1) (α 0 0) 0 (fun _ => 0) (tNum L 0 100 τ).2
def rMn (L : List Nat) (α : sA) (τ : rdE) : sA × rdE := (aUp (fun a b => if a = 10 + α 0 1 then (tBs L α τ).1 b else aUp α 2 (α 0 1) (tNum L 0 100 τ).1 a b) 0 1 (α 0 1 + 1), (tBs L α τ).2)
def tDp (α : sA) (m p : Nat) : Nat → Nat → rdE → rdE
  | 0, _, τ => τ
  | d + 1, s, τ => tDp α m p d (s + 1) (if α 3 s = m then tFl τ 2 p else τ)
def rSt (L : List Nat) (α : sA) (τ : rdE) : sA × rdE := (aUp (aUp α 3 (α 0 3) (tNum L 0 (α 0 1) τ).1) 0 3 (α 0 3 + 1), tDp α (tNum L 0 (α 0 1) τ).1 (tPo τ) (α 0 3) 0 (tNum L 0 (α 0 1) τ).2)
def rCh (L : List Nat) (α : sA) (τ : rdE) : sA × rdE := (aUp α 0 2 (tNum L 2 13 τ).1, (tNum L 2 13 τ).2)
def rDe (L : List Nat) (α : sA) (τ : rdE) : sA × rdE := (aUp (aUp (aUp α (30 + α 0 4) 0 (tNum L 1 61 τ).1) (30 + α 0 4) 1 (tNum L 0 (α 0 1) (tNum L 1 61 τ).2).1) 0 4 (α 0 4 + 1), (tNum L 0 (α 0 1) (tNum L 1 61 τ).2).2)
def rPr (L : List Nat) (α : sA) (τ : rdE) : sA × rdE := (aUp (aUp (aUp (aUp α (50 + α 0 5) 0 (tNum L 1 61 τ).1) (50 + α 0 5) 1 (tNum L 0 (α 0 1) (tNum L 1 61 τ).2).1) (50 + α 0 5) 2 (tNum L 1 100 (tNum L 0 (α 0 1) (tNum L 1 61 τ).2).2).1) 0 5 (α 0 5 + 1), (tNum L 1 100 (tNum L 0 (α 0 1) (tNum L 1 61 τ).2).2).2)
def rdA (L : List Nat) (k : Nat) (α : sA) (τ : rdE) : sA × rdE := match k with
  | 0 => rQ L α τ
  | 1 => rMn L α τ
  | 2 => rSt L α τ
  | 3 => rCh L α τ
  | 4 => rDe L α τ
  | _ => rPr L α τ
def tFo (α : sA) (fl : Bool) (c k : Nat) : Nat := if 60 ≤ c then 3 else if k = 0 then (if 6 ≤ α 0 0 then 3 else if 0 < α 0 1 then 4 else 0) else if k = 1 then (if 16 ≤ α 0 1 then 3 else 0) else if k = 2 then (if α 0 2 ≤ α 0 3 then 3 else 0) else if k = 3 then (if 0 < α 0 3 ∨ fl = true then 4 else 0) else if k = 4 then (if 12 ≤ α 0 4 then 3 else 0) else (if 12 ≤ α 0 5 then 3 else 0)
def tCl (L : List Nat) (c : Nat) (s : sA × Bool) (τ : rdE) : (sA × Bool) × rdE := match (tKd L τ).1 with
  | none => (s, tFl τ 1 (tPo τ))
  | some k => if tFo s.1 s.2 c k = 0 then (((rdA L k s.1 (tKd L τ).2).1, s.2 || decide (k = 3)), tSg L 59 (rdA L k s.1 (tKd L τ).2).2) else (s, tFl (tKd L τ).2 (tFo s.1 s.2 c k) (tPo τ))
def tAc (L : List Nat) : Nat → Nat → sA × Bool → rdE → (sA × Bool) × rdE
  | 0, _, s, τ => (s, τ)
  | _ + 1, _, s, .inr f => (s, .inr f)
  | d + 1, c, s, .inl p => if p < L.length then tAc L d (c + 1) (tCl L c s (.inl p)).1 (tCl L c s (.inl p)).2 else (s, .inl p)
def α0n : sA := fun a b => if a = 0 ∧ b = 2 then 6 else 0
/-! the values behind each -/
theorem rQ_v (L : List Nat) (α : sA) (τ : rdE) : (rQ L α τ).1 0 0 = α 0 0 + 1 ∧ (∀ j, j ≠ 0 → (rQ L α τ).1 0 j = α 0 j) ∧ (rQ L α τ).1 1 (α 0 0) = (tNum L 2 4 τ).1 ∧ (∀ q, q ≠ α 0 0 → (rQ L α τ).1 1 q = α 1 q) ∧ ∀ a b, 2 ≤ a → (rQ L α τ).1 a b = α a b := by
  unfold rQ aUp
  dsimp only
  refine ⟨?_, fun j h => ?_, ?_, fun q h => ?_, fun a b h => ?_⟩
  · rw [if_pos (by omega)]
  · rw [if_neg (by omega), if_neg (by omega)]
  · rw [if_neg (by omega), if_pos (by omega)]
  · rw [if_neg (by omega), if_neg (by omega)]
  · rw [if_neg (by omega), if_neg (by omega)]
theorem rMn_v (L : List Nat) (α : sA) (τ : rdE) : (rMn L α τ).1 0 1 = α 0 1 + 1 ∧ (∀ j, j ≠ 1 → (rMn L α τ).1 0 j = α 0 j) ∧ (rMn L α τ).1 2 (α 0 1) = (tNum L 0 100 τ).1 ∧ (∀ m, m ≠ α 0 1 → (rMn L α τ).1 2 m = α 2 m) ∧ (∀ q, (rMn L α τ).1 (10 + α 0 1) q = (tBs L α τ).1 q) ∧ ∀ a b, a ≠ 0 → a ≠ 2 → a ≠ 10 + α 0 1 → (rMn L α τ).1 a b = α a b := by
  unfold rMn aUp
  dsimp only
  refine ⟨?_, fun j h => ?_, ?_, fun m h => ?_, fun q => ?_, fun a b h1 h2 h3 => ?_⟩
  · rw [if_pos (by omega)]
  · rw [if_neg (by omega), if_neg (by omega), if_neg (by omega)]
  · rw [if_neg (by omega), if_neg (by omega), if_pos (by omega)]
  · rw [if_neg (by omega), if_neg (by omega), if_neg (by omega)]
  · rw [if_neg (by omega), if_pos (by omega)]
  · rw [if_neg (by omega), if_neg (by omega), if_neg (by omega)]
theorem rSt_v (L : List Nat) (α : sA) (τ : rdE) : (rSt L α τ).1 0 3 = α 0 3 + 1 ∧ (∀ j, j ≠ 3 → (rSt L α τ).1 0 j = α 0 j) ∧ (rSt L α τ).1 3 (α 0 3) = (tNum L 0 (α 0 1) τ).1 ∧ (∀ c, c ≠ α 0 3 → (rSt L α τ).1 3 c = α 3 c) ∧ ∀ a b, a ≠ 0 → a ≠ 3 → (rSt L α τ).1 a b = α a b := by
  unfold rSt aUp
  dsimp only
  refine ⟨?_, fun j h => ?_, ?_, fun c h => ?_, fun a b h1 h2 => ?_⟩
  · rw [if_pos (by omega)]
  · rw [if_neg (by omega), if_neg (by omega)]
  · rw [if_neg (by omega), if_pos (by omega)]
  · rw [if_neg (by omega), if_neg (by omega)]
  · rw [if_neg (by omega), if_neg (by omega)]
theorem rCh_v (L : List Nat) (α : sA) (τ : rdE) : (rCh L α τ).1 0 2 = (tNum L 2 13 τ).1 ∧ (∀ j, j ≠ 2 → (rCh L α τ).1 0 j = α 0 j) ∧ ∀ a b, a ≠ 0 → (rCh L α τ).1 a b = α a b := by
  unfold rCh aUp
  dsimp only
  refine ⟨?_, fun j h => ?_, fun a b h => ?_⟩
  · rw [if_pos (by omega)]
  · rw [if_neg (by omega)]
  · rw [if_neg (by omega)]
theorem rDe_v (L : List Nat) (α : sA) (τ : rdE) : (rDe L α τ).1 0 4 = α 0 4 + 1 ∧ (∀ j, j ≠ 4 → (rDe L α τ).1 0 j = α 0 j) ∧ (rDe L α τ).1 (30 + α 0 4) 0 = (tNum L 1 61 τ).1 ∧ (rDe L α τ).1 (30 + α 0 4) 1 = (tNum L 0 (α 0 1) (tNum L 1 61 τ).2).1 ∧ ∀ a b, a ≠ 0 → a ≠ 30 + α 0 4 → (rDe L α τ).1 a b = α a b := by
  unfold rDe aUp
  dsimp only
  refine ⟨?_, fun j h => ?_, ?_, ?_, fun a b h1 h2 => ?_⟩
  · rw [if_pos (by omega)]
  · rw [if_neg (by omega), if_neg (by omega), if_neg (by omega)]
  · rw [if_neg (by omega), if_neg (by omega), if_pos (by omega)]
  · rw [if_neg (by omega), if_pos (by omega)]
  · rw [if_neg (by omega), if_neg (by omega), if_neg (by omega)]
theorem rPr_v (L : List Nat) (α : sA) (τ : rdE) : (rPr L α τ).1 0 5 = α 0 5 + 1 ∧ (∀ j, j ≠ 5 → (rPr L α τ).1 0 j = α 0 j) ∧ (rPr L α τ).1 (50 + α 0 5) 0 = (tNum L 1 61 τ).1 ∧ (rPr L α τ).1 (50 + α 0 5) 1 = (tNum L 0 (α 0 1) (tNum L 1 61 τ).2).1 ∧ (rPr L α τ).1 (50 + α 0 5) 2 = (tNum L 1 100 (tNum L 0 (α 0 1) (tNum L 1 61 τ).2).2).1 ∧ ∀ a b, a ≠ 0 → a ≠ 50 + α 0 5 → (rPr L α τ).1 a b = α a b := by
  unfold rPr aUp
  dsimp only
  refine ⟨?_, fun j h => ?_, ?_, ?_, ?_, fun a b h1 h2 => ?_⟩
  · rw [if_pos (by omega)]
  · rw [if_neg (by omega), if_neg (by omega), if_neg (by omega), if_neg (by omega)]
  · rw [if_neg (by omega), if_neg (by omega), if_neg (by omega), if_pos (by omega)]
  · rw [if_neg (by omega), if_neg (by omega), if_pos (by omega)]
  · rw [if_neg (by omega), if_pos (by omega)]
  · rw [if_neg (by omega), if_neg (by omega), if_neg (by omega), if_neg (by omega)]
theorem tNum_in {L : List Nat} {a b : Nat} {τ : rdE} {q : Nat} (h : (tNum L a b τ).2 = .inl q) : ∃ p, τ = .inl p := by
  obtain ⟨-, -, p, e, -⟩ := tNum_ok h
  exact ⟨p, e⟩
theorem tBe_ok {L : List Nat} {s : Nat → Nat} : ∀ (d j : Nat) (B : Nat → Nat) (τ : rdE) (q : Nat), (tBe L s d j B τ).2 = .inl q → (∀ i, i < j → B i < s i) → (∃ p, τ = .inl p) ∧ (∀ i, i < j → (tBe L s d j B τ).1 i = B i) ∧ ∀ i, i < j + d → (tBe L s d j B τ).1 i < s i := by
  intro d
  induction d with
  | zero => intro j B τ q h hB; exact ⟨⟨q, h⟩, fun _ _ => rfl, fun i hi => hB i hi⟩
  | succ d ih =>
    intro j B τ q h hB
    rw [tBe] at h ⊢
    obtain ⟨⟨p, hp⟩, h1, h2⟩ := ih (j + 1) (sUp B j (tNum L 0 (s j) τ).1) _ q h (fun i hi => by
      have : ∃ p, (tNum L 0 (s j) τ).2 = .inl p := by
        cases e : (tNum L 0 (s j) τ).2 with
        | inl p => exact ⟨p, rfl⟩
        | inr f =>
          exfalso
          have st : ∀ (d j : Nat) (B : Nat → Nat) (f : Nat × Nat), (tBe L s d j B (.inr f)).2 = .inr f := by
            intro d
            induction d with
            | zero => intro j B f; rfl
            | succ d ih2 => intro j B f; rw [tBe]; exact ih2 _ _ _
          rw [e, st] at h
          cases h
      obtain ⟨p, hp⟩ := this
      by_cases c : i = j
      · rw [c, sUp_s]; exact (tNum_ok hp).2.1
      · rw [sUp_n _ _ c]; exact hB i (by omega))
    exact ⟨tNum_in hp, fun i hi => by rw [h1 i (by omega), sUp_n _ _ (by omega)], fun i hi => h2 i (by omega)⟩
theorem tDp_ok {α : sA} {m p : Nat} : ∀ (d s : Nat) (τ : rdE) (q : Nat), tDp α m p d s τ = .inl q → τ = .inl q ∧ ∀ i, s ≤ i → i < s + d → α 3 i ≠ m := by
  intro d
  induction d with
  | zero => intro s τ q h; exact ⟨h, fun i h1 h2 => by omega⟩
  | succ d ih =>
    intro s τ q h
    rw [tDp] at h
    obtain ⟨h1, h2⟩ := ih _ _ _ h
    by_cases c : α 3 s = m
    · rw [if_pos c] at h1
      exact absurd h1 tFl_no
    · rw [if_neg c] at h1
      refine ⟨h1, fun i g1 g2 => ?_⟩
      by_cases e : i = s
      · rw [e]; exact c
      · exact h2 i (by omega) (by omega)
theorem okA_rd {L : List Nat} {k : Nat} {α : sA} {fl : Bool} {c : Nat} {τ : rdE} {q : Nat} (hk : k < 6) (h : okA α) (hf : tFo α fl c k = 0) (hq : (rdA L k α τ).2 = .inl q) : okA (rdA L k α τ).1 := by
  obtain ⟨⟨a0, a1, a2, a3, a4, a5, a6⟩, b1, b2, b3, b4, b5, b6, b7⟩ := h
  have hc : ¬ 60 ≤ c := fun z => by unfold tFo at hf; rw [if_pos z] at hf; cases hf
  unfold tFo at hf
  rw [if_neg hc] at hf
  have : k = 0 ∨ k = 1 ∨ k = 2 ∨ k = 3 ∨ k = 4 ∨ k = 5 := by omega
  rcases this with rfl | rfl | rfl | rfl | rfl | rfl
  · -- question
    have hQ : ¬ 6 ≤ α 0 0 := fun z => by rw [if_pos rfl, if_pos z] at hf; cases hf
    have hM : ¬ 0 < α 0 1 := fun z => by rw [if_pos rfl, if_neg hQ, if_pos z] at hf; cases hf
    have hq2 : (tNum L 2 4 τ).2 = .inl q := hq
    obtain ⟨x2, x4, -⟩ := tNum_ok hq2
    obtain ⟨e0, e0n, e1, e1n, e2⟩ := rQ_v L α τ
    show okA (rQ L α τ).1
    generalize (rQ L α τ).1 = β at *
    refine ⟨⟨by omega, by rw [e0n 1 (by decide)]; exact a1, by rw [e0n 2 (by decide)]; exact a2, by rw [e0n 2 (by decide)]; exact a3, by rw [e0n 3 (by decide), e0n 2 (by decide)]; exact a4, by rw [e0n 4 (by decide)]; exact a5, by rw [e0n 5 (by decide)]; exact a6⟩, fun j hj => ?_, fun m hm => ?_, fun m hm => ?_, fun m d h1 h2 => ?_, fun m hm => ?_, fun m hm => ?_, fun m hm => ?_⟩
    · by_cases g : j = α 0 0
      · rw [g, e1]; omega
      · rw [e1n j g]; exact b1 j (by omega)
    · rw [e0n 1 (by decide)] at hm; omega
    · rw [e0n 3 (by decide)] at hm; have := b3 m hm; omega
    · rw [e0n 3 (by decide)] at h2
      rw [e2 _ _ (by decide), e2 _ _ (by decide)]
      exact b4 m d h1 h2
    · rw [e0n 1 (by decide)] at hm; omega
    · rw [e0n 4 (by decide)] at hm; have := b6 m hm; omega
    · rw [e0n 5 (by decide)] at hm; have := b7 m hm; omega
  · -- man
    have hM : ¬ 16 ≤ α 0 1 := fun z => by rw [if_neg (by decide), if_pos rfl, if_pos z] at hf; cases hf
    have hq2 : (tBs L α τ).2 = .inl q := hq
    obtain ⟨⟨p1, hp1⟩, -, hB⟩ := tBe_ok (α 0 0) 0 (fun _ => 0) _ q hq2 (fun i hi => absurd hi (Nat.not_lt_zero i))
    obtain ⟨-, x100, -⟩ := tNum_ok hp1
    obtain ⟨e0, e0n, e2, e2n, eB, eo⟩ := rMn_v L α τ
    show okA (rMn L α τ).1
    have hB2 : ∀ i, i < α 0 0 → (tBs L α τ).1 i < α 1 i := fun i hi => hB i (by omega)
    generalize (rMn L α τ).1 = β at *
    refine ⟨⟨by rw [e0n 0 (by decide)]; exact a0, by omega, by rw [e0n 2 (by decide)]; exact a2, by rw [e0n 2 (by decide)]; exact a3, by rw [e0n 3 (by decide), e0n 2 (by decide)]; exact a4, by rw [e0n 4 (by decide)]; exact a5, by rw [e0n 5 (by decide)]; exact a6⟩, fun j hj => ?_, fun m hm => ?_, fun m hm => ?_, fun m d h1 h2 => ?_, fun m hm j hj => ?_, fun m hm => ?_, fun m hm => ?_⟩
    · rw [e0n 0 (by decide)] at hj
      rw [eo 1 j (by decide) (by decide) (by omega)]
      exact b1 j hj
    · by_cases g : m = α 0 1
      · rw [g, e2]; omega
      · rw [e2n m g]; exact b2 m (by omega)
    · rw [e0n 3 (by decide)] at hm
      rw [eo 3 m (by decide) (by decide) (by omega), e0]
      have := b3 m hm
      omega
    · rw [e0n 3 (by decide)] at h2
      rw [eo 3 m (by decide) (by decide) (by omega), eo 3 d (by decide) (by decide) (by omega)]
      exact b4 m d h1 h2
    · rw [e0n 0 (by decide)] at hj
      rw [eo 1 j (by decide) (by decide) (by omega)]
      by_cases g : m = α 0 1
      · rw [g, eB]; exact hB2 j hj
      · rw [eo (10 + m) j (by omega) (by omega) (by omega)]; exact b5 m (by omega) j hj
    · rw [e0n 4 (by decide)] at hm
      rw [eo (30 + m) 0 (by omega) (by omega) (by omega), eo (30 + m) 1 (by omega) (by omega) (by omega), e0]
      have := b6 m hm
      omega
    · rw [e0n 5 (by decide)] at hm
      rw [eo (50 + m) 0 (by omega) (by omega) (by omega), eo (50 + m) 1 (by omega) (by omega) (by omega), eo (50 + m) 2 (by omega) (by omega) (by omega), e0]
      have := b7 m hm
      omega
  · -- seat
    have hS : ¬ α 0 2 ≤ α 0 3 := fun z => by rw [if_neg (by decide), if_neg (by decide), if_pos rfl, if_pos z] at hf; cases hf
    have hq2 : tDp α (tNum L 0 (α 0 1) τ).1 (tPo τ) (α 0 3) 0 (tNum L 0 (α 0 1) τ).2 = .inl q := hq
    obtain ⟨hp1, hne⟩ := tDp_ok _ _ _ _ hq2
    obtain ⟨-, xM, -⟩ := tNum_ok hp1
    obtain ⟨e0, e0n, e3, e3n, eo⟩ := rSt_v L α τ
    show okA (rSt L α τ).1
    generalize (rSt L α τ).1 = β at *
    refine ⟨⟨by rw [e0n 0 (by decide)]; exact a0, by rw [e0n 1 (by decide)]; exact a1, by rw [e0n 2 (by decide)]; exact a2, by rw [e0n 2 (by decide)]; exact a3, by rw [e0, e0n 2 (by decide)]; omega, by rw [e0n 4 (by decide)]; exact a5, by rw [e0n 5 (by decide)]; exact a6⟩, fun j hj => ?_, fun m hm => ?_, fun m hm => ?_, fun m d h1 h2 => ?_, fun m hm j hj => ?_, fun m hm => ?_, fun m hm => ?_⟩
    · rw [e0n 0 (by decide)] at hj
      rw [eo 1 j (by decide) (by decide)]
      exact b1 j hj
    · rw [e0n 1 (by decide)] at hm
      rw [eo 2 m (by decide) (by decide)]
      exact b2 m hm
    · rw [e0n 1 (by decide)]
      by_cases g : m = α 0 3
      · rw [g, e3]; exact xM
      · rw [e3n m g]; exact b3 m (by omega)
    · rw [e0] at h2
      rw [e3n m (by omega)]
      by_cases g : d = α 0 3
      · rw [g, e3]; exact hne m (Nat.zero_le _) (by omega)
      · rw [e3n d g]; exact b4 m d h1 (by omega)
    · rw [e0n 1 (by decide)] at hm
      rw [e0n 0 (by decide)] at hj
      rw [eo (10 + m) j (by omega) (by omega), eo 1 j (by decide) (by decide)]
      exact b5 m hm j hj
    · rw [e0n 4 (by decide)] at hm
      rw [eo (30 + m) 0 (by omega) (by omega), eo (30 + m) 1 (by omega) (by omega), e0n 1 (by decide)]
      exact b6 m hm
    · rw [e0n 5 (by decide)] at hm
      rw [eo (50 + m) 0 (by omega) (by omega), eo (50 + m) 1 (by omega) (by omega), eo (50 + m) 2 (by omega) (by omega), e0n 1 (by decide)]
      exact b7 m hm
  · -- chairs
    have hS : ¬ (0 < α 0 3 ∨ fl = true) := fun z => by rw [if_neg (by decide), if_neg (by decide), if_neg (by decide), if_pos rfl, if_pos z] at hf; cases hf
    have hS2 : ¬ 0 < α 0 3 := fun z => hS (Or.inl z)
    have hq2 : (tNum L 2 13 τ).2 = .inl q := hq
    obtain ⟨x2, x13, -⟩ := tNum_ok hq2
    obtain ⟨e2, e0n, eo⟩ := rCh_v L α τ
    show okA (rCh L α τ).1
    generalize (rCh L α τ).1 = β at *
    refine ⟨⟨by rw [e0n 0 (by decide)]; exact a0, by rw [e0n 1 (by decide)]; exact a1, by rw [e2]; exact x2, by rw [e2]; omega, by rw [e0n 3 (by decide), e2]; omega, by rw [e0n 4 (by decide)]; exact a5, by rw [e0n 5 (by decide)]; exact a6⟩, fun j hj => ?_, fun m hm => ?_, fun m hm => ?_, fun m d h1 h2 => ?_, fun m hm j hj => ?_, fun m hm => ?_, fun m hm => ?_⟩
    · rw [e0n 0 (by decide)] at hj
      rw [eo 1 j (by decide)]
      exact b1 j hj
    · rw [e0n 1 (by decide)] at hm
      rw [eo 2 m (by decide)]
      exact b2 m hm
    · rw [e0n 3 (by decide)] at hm
      omega
    · rw [e0n 3 (by decide)] at h2
      omega
    · rw [e0n 1 (by decide)] at hm
      rw [e0n 0 (by decide)] at hj
      rw [eo (10 + m) j (by omega), eo 1 j (by decide)]
      exact b5 m hm j hj
    · rw [e0n 4 (by decide)] at hm
      rw [eo (30 + m) 0 (by omega), eo (30 + m) 1 (by omega), e0n 1 (by decide)]
      exact b6 m hm
    · rw [e0n 5 (by decide)] at hm
      rw [eo (50 + m) 0 (by omega), eo (50 + m) 1 (by omega), eo (50 + m) 2 (by omega), e0n 1 (by decide)]
      exact b7 m hm
  · -- dies
    have hK : ¬ 12 ≤ α 0 4 := fun z => by rw [if_neg (by decide), if_neg (by decide), if_neg (by decide), if_neg (by decide), if_pos rfl, if_pos z] at hf; cases hf
    have hq2 : (tNum L 0 (α 0 1) (tNum L 1 61 τ).2).2 = .inl q := hq
    obtain ⟨-, xM, p1, hp1, -⟩ := tNum_ok hq2
    obtain ⟨y1, y61, -⟩ := tNum_ok hp1
    obtain ⟨e0, e0n, ey, em, eo⟩ := rDe_v L α τ
    show okA (rDe L α τ).1
    generalize (rDe L α τ).1 = β at *
    refine ⟨⟨by rw [e0n 0 (by decide)]; exact a0, by rw [e0n 1 (by decide)]; exact a1, by rw [e0n 2 (by decide)]; exact a2, by rw [e0n 2 (by decide)]; exact a3, by rw [e0n 3 (by decide), e0n 2 (by decide)]; exact a4, by omega, by rw [e0n 5 (by decide)]; exact a6⟩, fun j hj => ?_, fun m hm => ?_, fun m hm => ?_, fun m d h1 h2 => ?_, fun m hm j hj => ?_, fun m hm => ?_, fun m hm => ?_⟩
    · rw [e0n 0 (by decide)] at hj
      rw [eo 1 j (by decide) (by omega)]
      exact b1 j hj
    · rw [e0n 1 (by decide)] at hm
      rw [eo 2 m (by decide) (by omega)]
      exact b2 m hm
    · rw [e0n 3 (by decide)] at hm
      rw [eo 3 m (by decide) (by omega), e0n 1 (by decide)]
      exact b3 m hm
    · rw [e0n 3 (by decide)] at h2
      rw [eo 3 m (by decide) (by omega), eo 3 d (by decide) (by omega)]
      exact b4 m d h1 h2
    · rw [e0n 1 (by decide)] at hm
      rw [e0n 0 (by decide)] at hj
      rw [eo (10 + m) j (by omega) (by omega), eo 1 j (by decide) (by omega)]
      exact b5 m hm j hj
    · rw [e0n 1 (by decide)]
      by_cases g : m = α 0 4
      · rw [g, ey, em]; omega
      · rw [eo (30 + m) 0 (by omega) (by omega), eo (30 + m) 1 (by omega) (by omega)]; exact b6 m (by omega)
    · rw [e0n 5 (by decide)] at hm
      rw [eo (50 + m) 0 (by omega) (by omega), eo (50 + m) 1 (by omega) (by omega), eo (50 + m) 2 (by omega) (by omega), e0n 1 (by decide)]
      exact b7 m hm
  · -- praise
    have hK : ¬ 12 ≤ α 0 5 := fun z => by rw [if_neg (by decide), if_neg (by decide), if_neg (by decide), if_neg (by decide), if_neg (by decide), if_pos z] at hf; cases hf
    have hq2 : (tNum L 1 100 (tNum L 0 (α 0 1) (tNum L 1 61 τ).2).2).2 = .inl q := hq
    obtain ⟨z1, z100, p2, hp2, -⟩ := tNum_ok hq2
    obtain ⟨-, xM, p1, hp1, -⟩ := tNum_ok hp2
    obtain ⟨y1, y61, -⟩ := tNum_ok hp1
    obtain ⟨e0, e0n, ey, em, ez, eo⟩ := rPr_v L α τ
    show okA (rPr L α τ).1
    generalize (rPr L α τ).1 = β at *
    refine ⟨⟨by rw [e0n 0 (by decide)]; exact a0, by rw [e0n 1 (by decide)]; exact a1, by rw [e0n 2 (by decide)]; exact a2, by rw [e0n 2 (by decide)]; exact a3, by rw [e0n 3 (by decide), e0n 2 (by decide)]; exact a4, by rw [e0n 4 (by decide)]; exact a5, by omega⟩, fun j hj => ?_, fun m hm => ?_, fun m hm => ?_, fun m d h1 h2 => ?_, fun m hm j hj => ?_, fun m hm => ?_, fun m hm => ?_⟩
    · rw [e0n 0 (by decide)] at hj
      rw [eo 1 j (by decide) (by omega)]
      exact b1 j hj
    · rw [e0n 1 (by decide)] at hm
      rw [eo 2 m (by decide) (by omega)]
      exact b2 m hm
    · rw [e0n 3 (by decide)] at hm
      rw [eo 3 m (by decide) (by omega), e0n 1 (by decide)]
      exact b3 m hm
    · rw [e0n 3 (by decide)] at h2
      rw [eo 3 m (by decide) (by omega), eo 3 d (by decide) (by omega)]
      exact b4 m d h1 h2
    · rw [e0n 1 (by decide)] at hm
      rw [e0n 0 (by decide)] at hj
      rw [eo (10 + m) j (by omega) (by omega), eo 1 j (by decide) (by omega)]
      exact b5 m hm j hj
    · rw [e0n 4 (by decide)] at hm
      rw [eo (30 + m) 0 (by omega) (by omega), eo (30 + m) 1 (by omega) (by omega), e0n 1 (by decide)]
      exact b6 m hm
    · rw [e0n 1 (by decide)]
      by_cases g : m = α 0 5
      · rw [g, ey, em, ez]; omega
      · rw [eo (50 + m) 0 (by omega) (by omega), eo (50 + m) 1 (by omega) (by omega), eo (50 + m) 2 (by omega) (by omega)]; exact b7 m (by omega)
end
