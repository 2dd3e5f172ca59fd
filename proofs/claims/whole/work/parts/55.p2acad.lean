section
/-! the class's academy: sides in codes -/
/-! how much two men differ: two bits a question, counted at once -/
def bcE (x0 : Int32) : Int32 :=
  let y_1 := x0 - ((((x0).toUInt32 >>> (((1 : Int32)).toUInt32 &&& Int32.toUInt32 31)).toInt32) &&& (1431655765 : Int32))
  let y_2 := (y_1 &&& (858993459 : Int32)) + ((((y_1).toUInt32 >>> (((2 : Int32)).toUInt32 &&& Int32.toUInt32 31)).toInt32) &&& (858993459 : Int32))
  let y_3 := (y_2 + (((y_2).toUInt32 >>> (((4 : Int32)).toUInt32 &&& Int32.toUInt32 31)).toInt32)) &&& (252645135 : Int32)
  let y_4 := y_3 + (((y_3).toUInt32 >>> (((8 : Int32)).toUInt32 &&& Int32.toUInt32 31)).toInt32)
  let y_5 := y_4 + (((y_4).toUInt32 >>> (((16 : Int32)).toUInt32 &&& Int32.toUInt32 31)).toInt32)
  y_5 &&& (63 : Int32)
theorem p_bc (x : Int32) (v : zV) : fJ6_bitCount_0f7a4 x v = some (bcE x, v) := rfl
/-- the side of question q in a code -/
def dig (c q : Nat) : Nat := c / 4 ^ q % 4
def df (a b q : Nat) : Nat := if dig a q = dig b q then 0 else 1
def dfs (a b : Nat) : Nat := df a b 0 + df a b 1 + df a b 2 + df a b 3 + df a b 4 + df a b 5
set_option maxRecDepth 100000 in
theorem bits_all : ∀ u : Nat, u < 4096 → bcE ((nI u ||| (nI u >>> ((1 : Int32) &&& 31))) &&& (1365 : Int32)) = nI (dfs u 0) := by decide +kernel
theorem nI_xor (a b : Nat) : nI a ^^^ nI b = nI (a ^^^ b) := by
  apply Int32.toBitVec_inj.mp
  show BitVec.ofNat 32 a ^^^ BitVec.ofNat 32 b = BitVec.ofNat 32 (a ^^^ b)
  apply BitVec.eq_of_toNat_eq
  rw [BitVec.toNat_xor, BitVec.toNat_ofNat, BitVec.toNat_ofNat, BitVec.toNat_ofNat, Nat.xor_mod_two_pow]
theorem dig_xor (a b q : Nat) : dig (a ^^^ b) q = dig a q ^^^ dig b q := by
  unfold dig
  have h4 : (4 : Nat) ^ q = 2 ^ (2 * q) := by rw [Nat.pow_mul]
  rw [h4, ← Nat.shiftRight_eq_div_pow, ← Nat.shiftRight_eq_div_pow, ← Nat.shiftRight_eq_div_pow, Nat.shiftRight_xor_distrib]
  exact Nat.xor_mod_two_pow (n := 2)
theorem dig_0 (q : Nat) : dig 0 q = 0 := by
  unfold dig
  rw [Nat.zero_div, Nat.zero_mod]
theorem x4_xor : ∀ a, a < 4 → ∀ b, b < 4 → (a ^^^ b = 0 ↔ a = b) := by decide
theorem df_xor (a b q : Nat) : df (a ^^^ b) 0 q = df a b q := by
  have ha : dig a q < 4 := Nat.mod_lt _ (by decide)
  have hb : dig b q < 4 := Nat.mod_lt _ (by decide)
  unfold df
  rw [dig_xor, dig_0]
  by_cases e : dig a q = dig b q
  · rw [if_pos e, if_pos ((x4_xor _ ha _ hb).mpr e)]
  · rw [if_neg e, if_neg (fun h => e ((x4_xor _ ha _ hb).mp h))]
theorem dfs_xor (a b : Nat) : dfs (a ^^^ b) 0 = dfs a b := by
  unfold dfs
  rw [df_xor, df_xor, df_xor, df_xor, df_xor, df_xor]
/-- sides in one number -/
def sCF (f : Nat → Nat) : Nat → Nat
  | 0 => 0
  | n + 1 => sCF f n + f n * 4 ^ n
theorem sCF_lt {f : Nat → Nat} : ∀ n, (∀ q, q < n → f q < 4) → sCF f n < 4 ^ n := by
  intro n
  induction n with
  | zero => intro _; exact Nat.one_pos
  | succ n ih =>
    intro h
    have h1 := ih (fun q hq => h q (by omega))
    have h2 : f n * 4 ^ n ≤ 3 * 4 ^ n := Nat.mul_le_mul_right _ (by have := h n (by omega); omega)
    rw [sCF, Nat.pow_succ]
    omega
theorem sCF_cg {f g : Nat → Nat} : ∀ n, (∀ q, q < n → f q = g q) → sCF f n = sCF g n := by
  intro n
  induction n with
  | zero => intro _; rfl
  | succ n ih => intro h; rw [sCF, sCF, ih (fun q hq => h q (by omega)), h n (by omega)]
theorem dig_CF {f : Nat → Nat} : ∀ n, (∀ q, q < n → f q < 4) → ∀ q, dig (sCF f n) q = if q < n then f q else 0 := by
  intro n
  induction n with
  | zero => intro _ q; rw [if_neg (by omega)]; exact dig_0 q
  | succ n ih =>
    intro h q
    have hA := sCF_lt n (fun q hq => h q (by omega))
    have hi := ih (fun q hq => h q (by omega)) q
    have hf := h n (by omega)
    rw [sCF]
    rcases Nat.lt_trichotomy q n with hq | hq | hq
    · rw [if_pos (by omega), ← (if_pos hq : (if q < n then f q else 0) = f q), ← hi]
      unfold dig
      obtain ⟨d, rfl⟩ : ∃ d, n = q + 1 + d := ⟨n - (q + 1), by omega⟩
      have e : f (q + 1 + d) * 4 ^ (q + 1 + d) = 4 ^ q * (4 * (f (q + 1 + d) * 4 ^ d)) := by
        rw [Nat.pow_add, Nat.pow_add]
        simp only [Nat.pow_one]
        ac_rfl
      rw [e, Nat.add_mul_div_left _ _ (Nat.pow_pos (by decide)), Nat.add_mul_mod_self_left]
    · subst hq
      rw [if_pos (by omega)]
      unfold dig
      rw [Nat.mul_comm, Nat.add_mul_div_left _ _ (Nat.pow_pos (by decide)), Nat.div_eq_of_lt hA, Nat.zero_add, Nat.mod_eq_of_lt hf]
    · rw [if_neg (by omega)]
      unfold dig
      have hB : sCF f n + f n * 4 ^ n < 4 ^ q := by
        have h2 : f n * 4 ^ n ≤ 3 * 4 ^ n := Nat.mul_le_mul_right _ (by omega)
        have h3 : 4 ^ (n + 1) ≤ 4 ^ q := Nat.pow_le_pow_right (by decide) (by omega)
        rw [Nat.pow_succ] at h3
        omega
      rw [Nat.div_eq_of_lt hB]
theorem zcnt_cg {p r : Nat → Bool} : ∀ n, (∀ k, k < n → p k = r k) → zcnt p n = zcnt r n := by
  intro n
  induction n with
  | zero => intro _; rfl
  | succ n ih => intro h; rw [zcnt, zcnt, ih (fun k hk => h k (by omega)), h n (by omega)]
theorem zcnt_ext {p r : Nat → Bool} {n : Nat} (h : ∀ k, k < n → p k = r k) : ∀ d, (∀ k, n ≤ k → p k = false) → zcnt p (n + d) = zcnt r n := by
  intro d
  induction d with
  | zero => intro _; exact zcnt_cg n h
  | succ d ih =>
    intro h0
    rw [Nat.add_succ, zcnt, ih h0, h0 _ (by omega)]
    rfl
theorem dfs_cnt (a b : Nat) : dfs a b = zcnt (fun q => decide (dig a q ≠ dig b q)) 6 := by
  have e : ∀ q, df a b q = if decide (dig a q ≠ dig b q) = true then 1 else 0 := by
    intro q
    unfold df
    by_cases h : dig a q = dig b q
    · simp [h]
    · simp [h]
  unfold dfs
  simp only [zcnt, e, Nat.zero_add]
/-- a man's code -/
def pCode (α : sA) (m : Nat) : Nat := sCF (fun q => α (10 + m) q) (α 0 0)
theorem okA_bel {α : sA} (h : okA α) {m : Nat} (hm : m < α 0 1) : ∀ q, q < α 0 0 → α (10 + m) q < 4 := fun q hq => by
  have h1 := h.2.2.2.2.2.1 m hm q hq
  have h2 := h.2.1 q hq
  omega
theorem pCode_lt {α : sA} (h : okA α) {m : Nat} (hm : m < α 0 1) : pCode α m < 4096 := by
  have h1 := sCF_lt (α 0 0) (okA_bel h hm)
  have h2 : 4 ^ α 0 0 ≤ 4 ^ 6 := Nat.pow_le_pow_right (by decide) h.1.1
  exact Nat.lt_of_lt_of_le h1 h2
theorem pCode_dig {α : sA} (h : okA α) {m q : Nat} (hm : m < α 0 1) (hq : q < α 0 0) : dig (pCode α m) q = α (10 + m) q := by
  unfold pCode
  rw [dig_CF _ (okA_bel h hm), if_pos hq]
theorem sDf_dfs {α : sA} (h : okA α) {a b : Nat} (ha : a < α 0 1) (hb : b < α 0 1) : dfs (pCode α a) (pCode α b) = sDf α a b := by
  rw [dfs_cnt, sDf, show (6 : Nat) = α 0 0 + (6 - α 0 0) by have := h.1.1; omega]
  refine zcnt_ext (fun k hk => ?_) _ (fun k hk => ?_)
  · show decide (dig (pCode α a) k ≠ dig (pCode α b) k) = decide (α (10 + a) k ≠ α (10 + b) k)
    rw [pCode_dig h ha hk, pCode_dig h hb hk]
  · show decide (dig (pCode α a) k ≠ dig (pCode α b) k) = false
    unfold pCode
    rw [dig_CF _ (okA_bel h ha), dig_CF _ (okA_bel h hb), if_neg (by omega), if_neg (by omega)]
    rfl
theorem sDf_same {α : sA} (h : okA α) {a b : Nat} (ha : a < α 0 1) (hb : b < α 0 1) : pCode α a = pCode α b ↔ sDf α a b = 0 := by
  unfold sDf
  rw [zcnt_0]
  constructor
  · intro e k hk
    have h1 := pCode_dig h ha hk
    rw [e, pCode_dig h hb hk] at h1
    simp [h1]
  · intro e
    refine sCF_cg _ (fun q hq => ?_)
    have := e q hq
    simpa using this
/-- the class's academy at cell i -/
def pCA (i : Nat) (v : zV) (α : sA) : Prop := (v i 0 = nI (α 0 0) ∧ v i 1 = nI (α 0 1) ∧ v i 2 = nI (α 0 2) ∧ v i 3 = nI (α 0 3) ∧ v i 4 = nI (α 0 4) ∧ v i 5 = nI (α 0 5)) ∧ (∀ q, q < α 0 0 → v (i + 1) q = nI (α 1 q)) ∧ (∀ m, m < α 0 1 → v (i + 2) m = nI (α 2 m)) ∧ (∀ m, m < α 0 1 → v (i + 3) m = nI (pCode α m)) ∧ (∀ c, c < α 0 3 → v (i + 4) c = nI (α 3 c)) ∧ (∀ k, k < α 0 4 → v (i + 5) k = nI (α (30 + k) 0) ∧ v (i + 6) k = nI (α (30 + k) 1)) ∧ ∀ k, k < α 0 5 → v (i + 7) k = nI (α (50 + k) 0) ∧ v (i + 8) k = nI (α (50 + k) 1) ∧ v (i + 9) k = nI (α (50 + k) 2)
theorem CA_fr {i : Nat} {v w : zV} {α : sA} (h : pCA i v α) (e : ∀ a, i ≤ a → a ≤ i + 9 → w a = v a) : pCA i w α := by
  obtain ⟨h0, h1, h2, h3, h4, h5, h6⟩ := h
  refine ⟨?_, fun q hq => ?_, fun q hq => ?_, fun q hq => ?_, fun q hq => ?_, fun q hq => ?_, fun q hq => ?_⟩
  · rw [e i (by omega) (by omega)]; exact h0
  · rw [e (i + 1) (by omega) (by omega)]; exact h1 q hq
  · rw [e (i + 2) (by omega) (by omega)]; exact h2 q hq
  · rw [e (i + 3) (by omega) (by omega)]; exact h3 q hq
  · rw [e (i + 4) (by omega) (by omega)]; exact h4 q hq
  · rw [e (i + 5) (by omega) (by omega), e (i + 6) (by omega) (by omega)]; exact h5 q hq
  · rw [e (i + 7) (by omega) (by omega), e (i + 8) (by omega) (by omega), e (i + 9) (by omega) (by omega)]; exact h6 q hq
theorem p_differing {v : zV} {α : sA} (h : pCA 3 v α) (ho : okA α) {a b : Nat} (ha : a < α 0 1) (hb : b < α 0 1) : fX0_differing 3 (nI a) (nI b) v = some (nI (sDf α a b), v) := by
  have hM := ho.1.2.1
  unfold fX0_differing
  rw [rf_3_9, p_get (by rw [ln_6]; omega), zbind_some, p_get (by rw [ln_6]; omega), zbind_some, p_bc, zbind_some, h.2.2.2.1 a ha, h.2.2.2.1 b hb, nI_xor, bits_all _ (Nat.xor_lt_two_pow (n := 12) (pCode_lt ho ha) (pCode_lt ho hb)), dfs_xor, sDf_dfs ho ha hb]
theorem p_same {v : zV} {α : sA} (h : pCA 3 v α) (ho : okA α) {a b : Nat} (ha : a < α 0 1) (hb : b < α 0 1) : fX0_believeTheSame 3 (nI a) (nI b) v = some (if sDf α a b = 0 then 1 else 0, v) := by
  have hM := ho.1.2.1
  have h1 := pCode_lt ho ha
  have h2 := pCode_lt ho hb
  unfold fX0_believeTheSame
  rw [rf_3_9, p_get (by rw [ln_6]; omega), zbind_some, p_get (by rw [ln_6]; omega), zbind_some]
  rw [h.2.2.2.1 a ha, h.2.2.2.1 b hb]
  by_cases e : sDf α a b = 0
  · rw [if_pos e, if_pos (congrArg nI ((sDf_same ho ha hb).mpr e))]
  · rw [if_neg e, if_neg (fun q => e ((sDf_same ho ha hb).mp ((nI_eq (by omega) (by omega)).mp q)))]
theorem p_ageIn {v : zV} {α : sA} (h : pCA 3 v α) (ho : okA α) {m y : Nat} (hm : m < α 0 1) (hy : 1 ≤ y) : fX0_ageIn 3 (nI m) (nI y) v = some (nI (α 2 m + y - 1), v) := by
  have hM := ho.1.2.1
  unfold fX0_ageIn
  rw [rf_3_8, p_get (by rw [ln_5]; omega)]
  show some (v 5 m + nI y - 1, v) = _
  rw [h.2.2.1 m hm, nI_add]
  exact congrArg (fun t => some (t, v)) (pk_sub (b := 1) (by omega))
theorem sh2 : ∀ q, q < 6 → ((2 * nI q &&& 31).toBitVec.smod 32).toNat = 2 * q := by decide +kernel
theorem bel_shift (q : Nat) (hq : q < 6) (c : Nat) (hc : c < 4096) : (nI c >>> ((2 * nI q) &&& 31)) &&& 3 = nI (dig c q) := by
  have h1 : c / 2 ^ (2 * q) ≤ c := Nat.div_le_self _ _
  rw [pk_shrN (by omega) _ (2 * q) (sh2 q hq), pk_andN (by omega) 2 (by decide)]
  unfold dig
  rw [Nat.pow_mul]
theorem p_sideOf {v : zV} {α : sA} (h : pCA 3 v α) (ho : okA α) {m q : Nat} (hm : m < α 0 1) (hq : q < α 0 0) : fX0_sideOf 3 (nI m) (nI q) v = some (nI (α (10 + m) q), v) := by
  have hM := ho.1.2.1
  have hQ := ho.1.1
  unfold fX0_sideOf
  rw [rf_3_9, p_get (by rw [ln_6]; omega)]
  show some ((v 6 m >>> ((2 * nI q) &&& 31)) &&& 3, v) = _
  rw [h.2.2.2.1 m hm, bel_shift q (by omega) _ (pCode_lt ho hm), pCode_dig ho hm hq]
theorem p_praiseTold {v : zV} {α : sA} (h : pCA 3 v α) (ho : okA α) (m y : Nat) (hm : m < 2 ^ 31) (hy : y < 2 ^ 31) : fX0_praiseTold 3 (nI m) (nI y) v = some (sPr α m y, v) := by
  have hP := ho.1.2.2.2.2.2.2
  unfold fX0_praiseTold
  have := lpE (fun n j s => fX0_praiseTold_5 n 3 (nI m) (nI y) s (nI j) v) (fun k s => s + if α (50 + k) 1 = m ∧ α (50 + k) 0 = y then nI (α (50 + k) 2) else 0) (α 0 5) (fun s => some (s, v)) (fun n s => ?_) (fun n j s hj => ?_) (α 0 5) zFU 0 0 (Nat.zero_add _) (by unfold zFU; omega)
  · refine this.trans ?_
    rw [zit_sum, Int32.zero_add]
    rfl
  · show fX0_praiseTold_5 (n + 1) 3 (nI m) (nI y) s (nI (α 0 5)) v = _
    rw [fX0_praiseTold_5]
    dsimp only
    rw [h.1.2.2.2.2.2, if_pos (Int32.le_refl _)]
  · show fX0_praiseTold_5 (n + 1) 3 (nI m) (nI y) s (nI j) v = fX0_praiseTold_5 n 3 (nI m) (nI y) _ (nI (j + 1)) v
    rw [fX0_praiseTold_5]
    dsimp only
    obtain ⟨g1, g2, g3, g4, g5⟩ := ho.2.2.2.2.2.2.2 j hj
    obtain ⟨e1, e2, e3⟩ := h.2.2.2.2.2.2 j hj
    rw [h.1.2.2.2.2.2, if_neg (nI_ge hj (by omega)), rf_3_14, p_get (by rw [ln_11]; omega)]
    show (if v 11 j = nI m then zbind (fX9_get (zrf 3 13) (nI j) v) _ else _) = _
    rw [rf_3_13, p_get (by rw [ln_10]; omega)]
    show (if v 11 j = nI m then (if v 10 j = nI y then zbind (fX9_get (zrf 3 15) (nI j) v) _ else _) else _) = _
    rw [rf_3_15, p_get (by rw [ln_12]; omega), e1, e2, e3, nI_1]
    have hM := ho.1.2.1
    simp (disch := omega) only [nI_eq', zbind_some]
    by_cases c1 : α (50 + j) 1 = m
    · by_cases c2 : α (50 + j) 0 = y
      · rw [if_pos c1, if_pos c2, if_pos ⟨c1, c2⟩]
      · rw [if_pos c1, if_neg c2, if_neg (fun q => c2 q.2), Int32.add_zero]
    · rw [if_neg c1, if_neg (fun q => c1 q.1), Int32.add_zero]
end
