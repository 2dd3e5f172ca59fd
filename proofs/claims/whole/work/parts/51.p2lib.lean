/-! PHASE 2, the words: ints as numbers -/
section
theorem ng_toInt {k : Nat} (h : k < 2 ^ 31) : (-nI k).toInt = -(k : Int) := by
  rw [Int32.toInt_neg, nI_toInt h]
  exact Int.bmod_eq_of_le (by omega) (by omega)
theorem ng_eq {a k : Nat} (ha : a < 2 ^ 31) (h0 : 0 < k) (hk : k < 2 ^ 31) : (nI a = -nI k) = False := by
  refine eq_false (fun h => ?_)
  have := congrArg Int32.toInt h
  rw [nI_toInt ha, ng_toInt hk] at this
  omega
theorem ng_eq2 {a k : Nat} (ha : a < 2 ^ 31) (h0 : 0 < k) (hk : k < 2 ^ 31) : (-nI k = nI a) = False := by
  rw [← ng_eq ha h0 hk]
  exact propext eq_comm
theorem ng_le {a k : Nat} (ha : a < 2 ^ 31) (hk : k < 2 ^ 31) : (-nI k ≤ nI a) = True := by
  refine eq_true ?_
  rw [Int32.le_iff_toInt_le, nI_toInt ha, ng_toInt hk]
  omega
theorem ng_le2 {a k : Nat} (ha : a < 2 ^ 31) (h0 : 0 < k) (hk : k < 2 ^ 31) : (nI a ≤ -nI k) = False := by
  refine eq_false ?_
  rw [Int32.le_iff_toInt_le, nI_toInt ha, ng_toInt hk]
  omega
theorem ng_lt {a k : Nat} (ha : a < 2 ^ 31) (h0 : 0 < k) (hk : k < 2 ^ 31) : (-nI k < nI a) = True := by
  refine eq_true ?_
  rw [Int32.lt_iff_toInt_lt, nI_toInt ha, ng_toInt hk]
  omega
theorem ng_lt2 {a k : Nat} (ha : a < 2 ^ 31) (hk : k < 2 ^ 31) : (nI a < -nI k) = False := by
  refine eq_false ?_
  rw [Int32.lt_iff_toInt_lt, nI_toInt ha, ng_toInt hk]
  omega
theorem gg_eq {a b : Nat} (ha : a < 2 ^ 31) (hb : b < 2 ^ 31) : (-nI a = -nI b) = (a = b) := by
  refine propext ⟨fun h => ?_, fun h => by rw [h]⟩
  have := congrArg Int32.toInt h
  rw [ng_toInt ha, ng_toInt hb] at this
  omega
theorem gg_le {a b : Nat} (ha : a < 2 ^ 31) (hb : b < 2 ^ 31) : (-nI a ≤ -nI b) = (b ≤ a) := by
  refine propext ?_
  rw [Int32.le_iff_toInt_le, ng_toInt ha, ng_toInt hb]
  omega
theorem gg_lt {a b : Nat} (ha : a < 2 ^ 31) (hb : b < 2 ^ 31) : (-nI a < -nI b) = (b < a) := by
  refine propext ?_
  rw [Int32.lt_iff_toInt_lt, ng_toInt ha, ng_toInt hb]
  omega
theorem nI_le' {a b : Nat} (ha : a < 2 ^ 31) (hb : b < 2 ^ 31) : (nI a ≤ nI b) = (a ≤ b) := propext (nI_leI ha hb)
theorem nI_lt' {a b : Nat} (ha : a < 2 ^ 31) (hb : b < 2 ^ 31) : (nI a < nI b) = (a < b) := propext (nI_ltI ha hb)
theorem nI_eq' {a b : Nat} (ha : a < 2 ^ 31) (hb : b < 2 ^ 31) : (nI a = nI b) = (a = b) := propext (nI_eq ha hb)
theorem nI_sub' {a b : Nat} (h : b ≤ a) : nI a - nI b = nI (a - b) := pk_sub h
theorem nI_addg {a b : Nat} (h : b ≤ a) : nI a + -nI b = nI (a - b) := by rw [← Int32.sub_eq_add_neg, pk_sub h]
theorem gg_sub {a b : Nat} (h : a ≤ b) : -nI a - -nI b = nI (b - a) := by
  rw [Int32.sub_eq_add_neg, Int32.neg_neg, Int32.add_comm, ← Int32.sub_eq_add_neg, pk_sub h]
theorem nI_cl' {a : Nat} (h : a < 2 ^ 31) : (nI a).toNatClampNeg = a := nI_clamp h
theorem ofN_nI (n : Nat) : Int32.ofNat n = nI n := Eq.trans rfl rfl
theorem zlet_eq {α β : Type} (e : α) (B : α → β) : zlet e B = B e := Eq.trans rfl rfl
theorem zbind_some {α β : Type} (a : α) (w : zV) (k : α → zV → Option β) : zbind (some (a, w)) k = k a w := Eq.trans rfl rfl
theorem zbindv_some {β : Type} (w : zV) (k : zV → Option β) : zbindv (some w) k = k w := Eq.trans rfl rfl
theorem zbind_if {α β : Type} (c : Prop) [Decidable c] (a b : Option (α × zV)) (k : α → zV → Option β) : zbind (if c then a else b) k = if c then zbind a k else zbind b k := by split <;> rfl
theorem zbindv_if {β : Type} (c : Prop) [Decidable c] (a b : Option zV) (k : zV → Option β) : zbindv (if c then a else b) k = if c then zbindv a k else zbindv b k := by split <;> rfl
theorem zix_nI {β : Type} {a n : Nat} (h : a < n) (ha : a < 2 ^ 31) (k : Option β) : zix (nI a) n k = k := by
  unfold zix
  rw [nI_clamp ha, if_neg]
  intro hc
  rcases hc with hc | hc
  · exact nI_pos ha hc
  · omega
theorem zb_eq {c : Prop} [Decidable c] : ((if c then nI 1 else nI 0) = nI 0) = ¬ c := by
  by_cases h : c
  · rw [if_pos h]; exact propext ⟨fun q => absurd q (by decide), fun q => absurd h q⟩
  · rw [if_neg h]; exact propext ⟨fun _ => h, fun _ => rfl⟩
theorem zb_eqn {c : Prop} [Decidable c] : ((if c then nI 0 else nI 1) = nI 0) = c := by
  by_cases h : c
  · rw [if_pos h]; exact propext ⟨fun _ => h, fun _ => rfl⟩
  · rw [if_neg h]; exact propext ⟨fun q => absurd q (by decide), fun q => absurd q h⟩
/-- a man, or nobody -/
def oI : Option Nat → Int32
  | none => -1
  | some m => nI m
theorem oI_none : oI none = -nI 1 := Eq.trans rfl rfl
theorem oI_some (m : Nat) : oI (some m) = nI m := Eq.trans rfl rfl
theorem i_0 : (0 : Int32) = nI 0 := by decide
theorem i_1 : (1 : Int32) = nI 1 := by decide
theorem i_2 : (2 : Int32) = nI 2 := by decide
theorem i_3 : (3 : Int32) = nI 3 := by decide
theorem i_4 : (4 : Int32) = nI 4 := by decide
theorem i_5 : (5 : Int32) = nI 5 := by decide
theorem i_6 : (6 : Int32) = nI 6 := by decide
theorem i_7 : (7 : Int32) = nI 7 := by decide
theorem i_8 : (8 : Int32) = nI 8 := by decide
theorem i_9 : (9 : Int32) = nI 9 := by decide
theorem i_10 : (10 : Int32) = nI 10 := by decide
theorem i_11 : (11 : Int32) = nI 11 := by decide
theorem i_12 : (12 : Int32) = nI 12 := by decide
theorem i_13 : (13 : Int32) = nI 13 := by decide
theorem i_14 : (14 : Int32) = nI 14 := by decide
theorem i_15 : (15 : Int32) = nI 15 := by decide
theorem i_16 : (16 : Int32) = nI 16 := by decide
theorem i_17 : (17 : Int32) = nI 17 := by decide
theorem i_18 : (18 : Int32) = nI 18 := by decide
theorem i_19 : (19 : Int32) = nI 19 := by decide
theorem i_20 : (20 : Int32) = nI 20 := by decide
theorem i_21 : (21 : Int32) = nI 21 := by decide
theorem i_22 : (22 : Int32) = nI 22 := by decide
theorem i_23 : (23 : Int32) = nI 23 := by decide
theorem i_24 : (24 : Int32) = nI 24 := by decide
theorem i_25 : (25 : Int32) = nI 25 := by decide
theorem i_26 : (26 : Int32) = nI 26 := by decide
theorem i_27 : (27 : Int32) = nI 27 := by decide
theorem i_28 : (28 : Int32) = nI 28 := by decide
theorem i_29 : (29 : Int32) = nI 29 := by decide
theorem i_30 : (30 : Int32) = nI 30 := by decide
theorem i_31 : (31 : Int32) = nI 31 := by decide
theorem i_32 : (32 : Int32) = nI 32 := by decide
theorem i_33 : (33 : Int32) = nI 33 := by decide
theorem i_34 : (34 : Int32) = nI 34 := by decide
theorem i_35 : (35 : Int32) = nI 35 := by decide
theorem i_36 : (36 : Int32) = nI 36 := by decide
theorem i_37 : (37 : Int32) = nI 37 := by decide
theorem i_38 : (38 : Int32) = nI 38 := by decide
theorem i_39 : (39 : Int32) = nI 39 := by decide
theorem i_40 : (40 : Int32) = nI 40 := by decide
theorem i_41 : (41 : Int32) = nI 41 := by decide
theorem i_42 : (42 : Int32) = nI 42 := by decide
theorem i_43 : (43 : Int32) = nI 43 := by decide
theorem i_44 : (44 : Int32) = nI 44 := by decide
theorem i_45 : (45 : Int32) = nI 45 := by decide
theorem i_46 : (46 : Int32) = nI 46 := by decide
theorem i_47 : (47 : Int32) = nI 47 := by decide
theorem i_48 : (48 : Int32) = nI 48 := by decide
theorem i_49 : (49 : Int32) = nI 49 := by decide
theorem i_50 : (50 : Int32) = nI 50 := by decide
theorem i_51 : (51 : Int32) = nI 51 := by decide
theorem i_52 : (52 : Int32) = nI 52 := by decide
theorem i_53 : (53 : Int32) = nI 53 := by decide
theorem i_54 : (54 : Int32) = nI 54 := by decide
theorem i_55 : (55 : Int32) = nI 55 := by decide
theorem i_56 : (56 : Int32) = nI 56 := by decide
theorem i_57 : (57 : Int32) = nI 57 := by decide
theorem i_58 : (58 : Int32) = nI 58 := by decide
theorem i_59 : (59 : Int32) = nI 59 := by decide
theorem i_60 : (60 : Int32) = nI 60 := by decide
theorem i_61 : (61 : Int32) = nI 61 := by decide
theorem i_62 : (62 : Int32) = nI 62 := by decide
theorem i_63 : (63 : Int32) = nI 63 := by decide
theorem i_91 : (91 : Int32) = nI 91 := by decide
theorem i_93 : (93 : Int32) = nI 93 := by decide
theorem i_97 : (97 : Int32) = nI 97 := by decide
theorem i_98 : (98 : Int32) = nI 98 := by decide
theorem i_99 : (99 : Int32) = nI 99 := by decide
theorem i_100 : (100 : Int32) = nI 100 := by decide
theorem i_101 : (101 : Int32) = nI 101 := by decide
theorem i_102 : (102 : Int32) = nI 102 := by decide
theorem i_103 : (103 : Int32) = nI 103 := by decide
theorem i_104 : (104 : Int32) = nI 104 := by decide
theorem i_122 : (122 : Int32) = nI 122 := by decide
theorem i_150 : (150 : Int32) = nI 150 := by decide
theorem i_200 : (200 : Int32) = nI 200 := by decide
theorem i_255 : (255 : Int32) = nI 255 := by decide
theorem i_305 : (305 : Int32) = nI 305 := by decide
theorem i_600 : (600 : Int32) = nI 600 := by decide
theorem i_729 : (729 : Int32) = nI 729 := by decide
theorem i_999 : (999 : Int32) = nI 999 := by decide
theorem i_1365 : (1365 : Int32) = nI 1365 := by decide
theorem i_12345 : (12345 : Int32) = nI 12345 := by decide
theorem i_32767 : (32767 : Int32) = nI 32767 := by decide
theorem i_65536 : (65536 : Int32) = nI 65536 := by decide
theorem i_100000 : (100000 : Int32) = nI 100000 := by decide
theorem i_1000000 : (1000000 : Int32) = nI 1000000 := by decide
theorem i_1103515245 : (1103515245 : Int32) = nI 1103515245 := by decide
end
section
/-! loops -/
def zit {σ : Type} (g : Nat → σ → σ) : Nat → Nat → σ → σ
  | 0, _, s => s
  | d + 1, j, s => zit g d (j + 1) (g j s)
theorem zit_end {σ : Type} (g : Nat → σ → σ) : ∀ (d j : Nat) (s : σ), zit g (d + 1) j s = g (j + d) (zit g d j s) := by
  intro d
  induction d with
  | zero => intro j s; rfl
  | succ d ih =>
    intro j s
    rw [zit, ih (j + 1) (g j s), zit, show j + 1 + d = j + (d + 1) by omega]
theorem zit_cg {σ : Type} {g h : Nat → σ → σ} : ∀ (d j : Nat) (s : σ), (∀ k s, j ≤ k → k < j + d → g k s = h k s) → zit g d j s = zit h d j s := by
  intro d
  induction d with
  | zero => intro j s _; rfl
  | succ d ih =>
    intro j s e
    rw [zit, zit, e j s (Nat.le_refl _) (by omega)]
    exact ih (j + 1) _ (fun k s h1 h2 => e k s (by omega) (by omega))
theorem zit_inv {σ : Type} {g : Nat → σ → σ} (I : Nat → σ → Prop) (N : Nat) (hs : ∀ j s, j < N → I j s → I (j + 1) (g j s)) : ∀ (d j : Nat) (s : σ), j + d = N → I j s → I N (zit g d j s) := by
  intro d
  induction d with
  | zero => intro j s e h; rw [zit, ← e]; exact h
  | succ d ih => intro j s e h; exact ih (j + 1) (g j s) (by omega) (hs j s (by omega) h)
/-- two loops that go side by side -/
theorem zit_two {σ τ : Type} {g : Nat → σ → σ} {h : Nat → τ → τ} (I : Nat → σ → τ → Prop) (N : Nat) (hs : ∀ j s t, j < N → I j s t → I (j + 1) (g j s) (h j t)) : ∀ (d j : Nat) (s : σ) (t : τ), j + d = N → I j s t → I N (zit g d j s) (zit h d j t) := by
  intro d
  induction d with
  | zero => intro j s t e i; rw [zit, zit, ← e]; exact i
  | succ d ih => intro j s t e i; exact ih (j + 1) _ _ (by omega) (hs j s t (by omega) i)
/-- a loop upwards that never stops ahead of its end -/
theorem lpR {σ R : Type} (F : Nat → Nat → σ → zV → Option R) (g : Nat → σ → σ) (N : Nat) (K : Nat → σ → zV → Prop) (Q : σ → R → Prop)
    (he : ∀ n s v, K N s v → ∃ r, F (n + 1) N s v = some r ∧ Q s r)
    (hs : ∀ n j s v, j < N → K j s v → ∃ w, F (n + 1) j s v = F n (j + 1) (g j s) w ∧ K (j + 1) (g j s) w) :
    ∀ (d n j : Nat) (s : σ) (v : zV), j + d = N → d < n → K j s v → ∃ r, F n j s v = some r ∧ Q (zit g d j s) r := by
  intro d
  induction d with
  | zero =>
    intro n j s v e hn h
    obtain ⟨n, rfl⟩ : ∃ k, n = k + 1 := ⟨n - 1, by omega⟩
    obtain rfl : j = N := by omega
    exact he n s v h
  | succ d ih =>
    intro n j s v e hn h
    obtain ⟨n, rfl⟩ : ∃ k, n = k + 1 := ⟨n - 1, by omega⟩
    obtain ⟨w, h1, h2⟩ := hs n j s v (by omega) h
    rw [h1]
    exact ih n (j + 1) (g j s) w (by omega) (by omega) h2
/-- a loop upwards that changes nothing of the heap and gives a value -/
theorem lpE {σ R : Type} (F : Nat → Nat → σ → Option R) (g : Nat → σ → σ) (N : Nat) (fin : σ → Option R)
    (he : ∀ n s, F (n + 1) N s = fin s)
    (hs : ∀ n j s, j < N → F (n + 1) j s = F n (j + 1) (g j s)) :
    ∀ (d n j : Nat) (s : σ), j + d = N → d < n → F n j s = fin (zit g d j s) := by
  intro d
  induction d with
  | zero =>
    intro n j s e hn
    obtain ⟨n, rfl⟩ : ∃ k, n = k + 1 := ⟨n - 1, by omega⟩
    obtain rfl : j = N := by omega
    exact he n s
  | succ d ih =>
    intro n j s e hn
    obtain ⟨n, rfl⟩ : ∃ k, n = k + 1 := ⟨n - 1, by omega⟩
    rw [hs n j s (by omega)]
    exact ih n (j + 1) (g j s) (by omega) (by omega)
/-- the same, where the steps hold for what an invariant allows -/
theorem lpI {σ R : Type} (F : Nat → Nat → σ → Option R) (g : Nat → σ → σ) (N : Nat) (fin : σ → Option R) (I : Nat → σ → Prop)
    (he : ∀ n s, I N s → F (n + 1) N s = fin s)
    (hs : ∀ n j s, j < N → I j s → F (n + 1) j s = F n (j + 1) (g j s) ∧ I (j + 1) (g j s)) :
    ∀ (d n j : Nat) (s : σ), j + d = N → d < n → I j s → F n j s = fin (zit g d j s) := by
  intro d
  induction d with
  | zero =>
    intro n j s e hn h
    obtain ⟨n, rfl⟩ : ∃ k, n = k + 1 := ⟨n - 1, by omega⟩
    obtain rfl : j = N := by omega
    exact he n s h
  | succ d ih =>
    intro n j s e hn h
    obtain ⟨n, rfl⟩ : ∃ k, n = k + 1 := ⟨n - 1, by omega⟩
    obtain ⟨h1, h2⟩ := hs n j s (by omega) h
    rw [h1]
    exact ih n (j + 1) (g j s) (by omega) (by omega) h2
/-- where a loop that looks for something stops -/
def zfx {σ : Type} (x : Nat → σ → Bool) (g : Nat → σ → σ) : Nat → Nat → σ → Nat × σ
  | 0, j, s => (j, s)
  | d + 1, j, s => if x j s then (j, s) else zfx x g d (j + 1) (g j s)
theorem lpX {σ R : Type} (F : Nat → Nat → σ → zV → Option R) (x : Nat → σ → Bool) (g : Nat → σ → σ) (N : Nat) (K : Nat → σ → zV → Prop) (Q : Nat → σ → R → Prop)
    (he : ∀ n s v, K N s v → ∃ r, F (n + 1) N s v = some r ∧ Q N s r)
    (hx : ∀ n j s v, j < N → K j s v → x j s = true → ∃ r, F (n + 1) j s v = some r ∧ Q j s r)
    (hs : ∀ n j s v, j < N → K j s v → x j s = false → ∃ w, F (n + 1) j s v = F n (j + 1) (g j s) w ∧ K (j + 1) (g j s) w) :
    ∀ (d n j : Nat) (s : σ) (v : zV), j + d = N → d < n → K j s v → ∃ r, F n j s v = some r ∧ Q (zfx x g d j s).1 (zfx x g d j s).2 r := by
  intro d
  induction d with
  | zero =>
    intro n j s v e hn h
    obtain ⟨n, rfl⟩ : ∃ k, n = k + 1 := ⟨n - 1, by omega⟩
    obtain rfl : j = N := by omega
    exact he n s v h
  | succ d ih =>
    intro n j s v e hn h
    obtain ⟨n, rfl⟩ : ∃ k, n = k + 1 := ⟨n - 1, by omega⟩
    rw [zfx]
    cases hb : x j s with
    | true =>
      rw [if_pos rfl]
      exact hx n j s v (by omega) h hb
    | false =>
      rw [if_neg (by decide)]
      obtain ⟨w, h1, h2⟩ := hs n j s v (by omega) h hb
      rw [h1]
      exact ih n (j + 1) (g j s) w (by omega) (by omega) h2
/-- sums -/
def zsum (f : Nat → Int32) : Nat → Int32
  | 0 => 0
  | n + 1 => zsum f n + f n
theorem zit_sum (f : Nat → Int32) : ∀ (d : Nat) (s : Int32), zit (fun k s => s + f k) d 0 s = s + zsum f d := by
  intro d
  induction d with
  | zero => intro s; exact (Int32.add_zero s).symm
  | succ d ih => intro s; rw [zit_end, ih, zsum, Nat.zero_add, Int32.add_assoc]
theorem zsum_cg {f g : Nat → Int32} : ∀ n, (∀ k, k < n → f k = g k) → zsum f n = zsum g n := by
  intro n
  induction n with
  | zero => intro _; rfl
  | succ n ih => intro h; rw [zsum, zsum, ih (fun k hk => h k (by omega)), h n (by omega)]
theorem zsum_0 {f : Nat → Int32} : ∀ n, (∀ k, k < n → f k = 0) → zsum f n = 0 := by
  intro n
  induction n with
  | zero => intro _; rfl
  | succ n ih => intro h; rw [zsum, ih (fun k hk => h k (by omega)), h n (by omega)]; rfl
/-- counts -/
def zcnt (p : Nat → Bool) : Nat → Nat
  | 0 => 0
  | n + 1 => zcnt p n + if p n then 1 else 0
theorem zcnt_le (p : Nat → Bool) : ∀ n, zcnt p n ≤ n := by
  intro n
  induction n with
  | zero => exact Nat.le_refl _
  | succ n ih => rw [zcnt]; split <;> omega
theorem zcnt_0 (p : Nat → Bool) : ∀ n, zcnt p n = 0 ↔ ∀ k, k < n → p k = false := by
  intro n
  induction n with
  | zero => exact ⟨fun _ k hk => absurd hk (Nat.not_lt_zero k), fun _ => rfl⟩
  | succ n ih =>
    rw [zcnt]
    constructor
    · intro h k hk
      have h1 : zcnt p n = 0 := by omega
      rcases Nat.lt_or_ge k n with h2 | h2
      · exact ih.mp h1 k h2
      · obtain rfl : k = n := by omega
        cases hp : p k with
        | false => rfl
        | true => rw [hp, if_pos rfl] at h; omega
    · intro h
      rw [ih.mpr (fun k hk => h k (by omega)), h n (by omega)]
      rfl
theorem zit_cnt (p : Nat → Bool) : ∀ (d s : Nat), zit (fun k s => s + if p k then 1 else 0) d 0 s = s + zcnt p d := by
  intro d
  induction d with
  | zero => intro s; rfl
  | succ d ih => intro s; rw [zit_end, ih, zcnt, Nat.zero_add, Nat.add_assoc]
end
