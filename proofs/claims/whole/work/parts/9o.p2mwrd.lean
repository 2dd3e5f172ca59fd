/-! READING A TEXT: words, the reference (a word as one number) -/
section
def nJ (n : Nat) : Int64 := Int64.ofNat n
def tHs (L : List Nat) (p : Nat) : Nat → Nat
  | 0 => 0
  | d + 1 => 27 * tHs L p d + (bA L (p + d) - 96)
theorem nJ_inj {a b : Nat} (ha : a < 2 ^ 63) (hb : b < 2 ^ 63) (h : nJ a = nJ b) : a = b := by
  have := congrArg (fun z : Int64 => z.toBitVec.toNat) h
  have h2 : (BitVec.ofNat 64 a).toNat = (BitVec.ofNat 64 b).toNat := this
  rw [BitVec.toNat_ofNat, BitVec.toNat_ofNat, Nat.mod_eq_of_lt (by omega), Nat.mod_eq_of_lt (by omega)] at h2
  exact h2
theorem nJ_neg {a : Nat} (ha : a < 2 ^ 63) : ¬ ((-1 : Int64) = nJ a) := fun h => by
  have := congrArg (fun z : Int64 => z.toBitVec.toNat) h
  have h2 : (18446744073709551615 : Nat) = (BitVec.ofNat 64 a).toNat := this
  rw [BitVec.toNat_ofNat, Nat.mod_eq_of_lt (by omega)] at h2
  omega
theorem nJ_b : ∀ b, b < 256 → (nI b).toInt64 = nJ b := by decide +kernel
theorem nJ_acc (x b : Nat) (h : 97 ≤ b) (hb : b < 256) : ((((27 : Int64) * nJ x) + ((nI b).toInt64)) - (97 : Int64)) + (1 : Int64) = nJ (27 * x + (b - 96)) := by
  have e : b = (b - 96) + 96 := by omega
  rw [nJ_b b hb]
  have h1 : nJ (27 * x + (b - 96)) = 27 * nJ x + nJ (b - 96) := by
    unfold nJ
    rw [Int64.ofNat_add, Int64.ofNat_mul]
    rfl
  have h2 : nJ b = nJ (b - 96) + 96 := by
    conv => lhs; rw [e]
    unfold nJ
    rw [Int64.ofNat_add]
    rfl
  rw [h1, h2, Int64.sub_eq_add_neg, Int64.add_assoc, Int64.add_assoc, Int64.add_assoc]
  rw [show (96 : Int64) + (-97 + 1) = 0 by decide, Int64.add_zero]
theorem tHs_lt {L : List Nat} {p : Nat} : ∀ d, (∀ i, i < d → 97 ≤ bA L (p + i) ∧ bA L (p + i) ≤ 122) → tHs L p d < 27 ^ d := by
  intro d
  induction d with
  | zero => intro _; exact Nat.one_pos
  | succ d ih =>
    intro h
    have h1 := ih (fun i hi => h i (by omega))
    have h2 := h d (by omega)
    rw [tHs, Nat.pow_succ]
    omega
theorem tHs_inj {L W : List Nat} {p q : Nat} : ∀ d e, (∀ i, i < d → 97 ≤ bA L (p + i) ∧ bA L (p + i) ≤ 122) → (∀ i, i < e → 97 ≤ bA W (q + i) ∧ bA W (q + i) ≤ 122) → tHs L p d = tHs W q e → d = e ∧ ∀ i, i < d → bA L (p + i) = bA W (q + i) := by
  intro d
  induction d with
  | zero =>
    intro e _ h2 h
    cases e with
    | zero => exact ⟨rfl, fun i hi => absurd hi (Nat.not_lt_zero i)⟩
    | succ e =>
      have := h2 e (by omega)
      rw [tHs, tHs] at h
      omega
  | succ d ih =>
    intro e h1 h2 h
    cases e with
    | zero =>
      have := h1 d (by omega)
      rw [tHs, tHs] at h
      omega
    | succ e =>
      have g1 := h1 d (by omega)
      have g2 := h2 e (by omega)
      rw [tHs, tHs] at h
      obtain ⟨k1, k2⟩ := ih e (fun i hi => h1 i (by omega)) (fun i hi => h2 i (by omega)) (by omega)
      subst k1
      refine ⟨rfl, fun i hi => ?_⟩
      by_cases c : i = d
      · rw [c]; omega
      · exact k2 i (by omega)
/-- the letters of a word -/
theorem tWe_lt {L : List Nat} {p : Nat} (hp : p ≤ L.length) : ∀ i, i < tWe L p - p → 97 ≤ bA L (p + i) ∧ bA L (p + i) ≤ 122 := fun i hi => of_decide_eq_true (tWe_in hp (by omega)).2
theorem p_here8 {L : List Nat} {p : Nat} {v : zV} (h : bBM L v) (hp : p ≤ L.length) (h4 : v 116 4 = nI p) : ∀ (d n j : Nat) (acc : Int64), p + j + d = tWe L p → d < n → (j ≤ 8 → acc = nJ (tHs L p j)) → fX10_wordHere_8 n 116 acc (nI j) v = some (if tWe L p - p ≤ 8 then nJ (tHs L p (tWe L p - p)) else -1, v) := by
  have hL := h.1
  have hle := tWe_le L hp
  intro d
  induction d with
  | zero =>
    intro n j acc e hn ha
    obtain ⟨n, rfl⟩ : ∃ k, n = k + 1 := ⟨n - 1, by omega⟩
    rw [fX10_wordHere_8]
    dsimp only
    rw [h4, nI_add, byteAt_M h (by omega), zbind_some, isLtM, isLt_at (fun q => (h.2.2 _ q).2), zbind_some, if_neg (show ¬ (p + j < L.length ∧ bLt L (p + j) = true) by rw [show p + j = tWe L p by omega]; exact tWe_out hp), if_pos rfl, show tWe L p - p = j by omega]
    by_cases c : j ≤ 8
    · rw [if_pos (show nI j ≤ 8 from leY (b := 8) (by omega) (by omega) c), if_pos c, ha c]
    · rw [if_neg (show ¬ nI j ≤ 8 from leN (b := 8) (by omega) (by omega) c), if_neg c]
  | succ d ih =>
    intro n j acc e hn ha
    obtain ⟨n, rfl⟩ : ∃ k, n = k + 1 := ⟨n - 1, by omega⟩
    have hin := tWe_in (i := j) hp (by omega)
    have hlt := tWe_lt hp j (by omega)
    rw [fX10_wordHere_8]
    dsimp only
    rw [h4, nI_add, byteAt_M h (by omega), zbind_some, isLtM, isLt_at (fun q => (h.2.2 _ q).2), zbind_some, if_pos hin, if_neg (show ¬ (1 : Int32) = 0 by decide)]
    by_cases c : 8 ≤ j
    · rw [if_pos (show (8 : Int32) ≤ nI j from leY (a := 8) (by omega) (by omega) c), show (nI j + 1 : Int32) = nI (j + 1) from nI_add _ 1]
      exact ih n (j + 1) acc (by omega) (by omega) (fun q => by omega)
    · rw [if_neg (show ¬ (8 : Int32) ≤ nI j from leN (a := 8) (by omega) (by omega) c), h4, nI_add, byteAt_M h (by omega), zbind_some, show bQt L (p + j) = nI (bA L (p + j)) from if_pos hin.1, ha (by omega), nJ_acc _ _ hlt.1 (by omega), zlet_eq, show (nI j + 1 : Int32) = nI (j + 1) from nI_add _ 1]
      exact ih n (j + 1) _ (by omega) (by omega) (fun _ => rfl)
def tWd (L W : List Nat) (τ : rdE) : Bool := match τ with
  | .inl p => tIs L p W
  | .inr _ => false
theorem tIs_iff {L W : List Nat} {p : Nat} (hp : p ≤ L.length) (hW : W.length ≤ 8) (hl : ∀ i, i < W.length → 97 ≤ bA W i ∧ bA W i ≤ 122) : tIs L p W = true ↔ (tWe L p - p ≤ 8 ∧ tHs L p (tWe L p - p) = tHs W 0 W.length) := by
  have hge := tWe_ge L p
  unfold tIs
  rw [Bool.and_eq_true, decide_eq_true_iff, zall_iff]
  constructor
  · rintro ⟨h1, h2⟩
    have e : tWe L p - p = W.length := by omega
    refine ⟨by omega, ?_⟩
    rw [e]
    have key : ∀ d, d ≤ W.length → tHs L p d = tHs W 0 d := by
      intro d
      induction d with
      | zero => intro _; rfl
      | succ d ih =>
        intro hd
        rw [tHs, tHs, ih (by omega), of_decide_eq_true (h2 d (Nat.zero_le _) (by omega)), Nat.zero_add]
    exact key _ (Nat.le_refl _)
  · rintro ⟨h1, h2⟩
    obtain ⟨k1, k2⟩ := tHs_inj (tWe L p - p) W.length (tWe_lt hp) (fun i hi => by rw [Nat.zero_add]; exact hl i hi) h2
    refine ⟨by omega, fun i _ hi => decide_eq_true ?_⟩
    have := k2 i (by omega)
    rw [Nat.zero_add] at this
    exact this
theorem lgc_eq {a b : Int64} : (lg_cmp a b = 0) ↔ a = b := by
  unfold lg_cmp
  by_cases h : a > b
  · rw [if_pos h]
    exact ⟨fun z => absurd z (by decide), fun z => by rw [z] at h; exact absurd h Int64.lt_irrefl⟩
  · rw [if_neg h]
    by_cases e : a = b
    · rw [if_pos e]; exact ⟨fun _ => e, fun _ => rfl⟩
    · rw [if_neg e]; exact ⟨fun z => absurd z (by decide), fun z => absurd z e⟩
theorem p_isWord {L : List Nat} {τ : rdE} {v : zV} (h : rdM L τ v) {W : List Nat} (hW : W.length ≤ 8) (hl : ∀ i, i < W.length → 97 ≤ bA W i ∧ bA W i ≤ 122) {c1 c2 c3 c4 c5 c6 c7 c8 : Int32} (he : ∀ v, fX10_eight c1 c2 c3 c4 c5 c6 c7 c8 v = some (nJ (tHs W 0 W.length), v)) : ∃ w, fX10_isWord 116 c1 c2 c3 c4 c5 c6 c7 c8 v = some (if tWd L W τ = true then 1 else 0, w) ∧ rdM L τ w ∧ exM τ w ∧ fr2 v w := by
  unfold fX10_isWord
  cases τ with
  | inl p =>
    obtain ⟨u, hu, hR, hX, wa, wk⟩ := p_blanks h
    have hp := (rdM_np hR).1
    have hL := hR.1.1
    have hge := tWe_ge L p
    have e8 := p_here8 hR.1 hp (hX p rfl) (tWe L p - p) zFU 0 0 (by omega) (by have := tWe_le L hp; unfold zFU; omega) (fun _ => rfl)
    have hb1 : tHs W 0 W.length < 2 ^ 63 := by
      have h1 := tHs_lt (L := W) (p := 0) W.length (fun i hi => by rw [Nat.zero_add]; exact hl i hi)
      have h2 : 27 ^ W.length ≤ 27 ^ 8 := Nat.pow_le_pow_right (by decide) hW
      have h3 : 27 ^ 8 < 2 ^ 63 := by decide
      omega
    refine ⟨u, ?_, hR, hX, mk_fr wa wk⟩
    rw [rdM_0 h, if_pos (show nI 0 = 0 from rfl)]
    unfold fX10_wordHere
    rw [hu, zbindv_some, show fX10_wordHere_8 zFU 116 0 0 u = fX10_wordHere_8 zFU 116 0 (nI 0) u from rfl, e8, zbind_some, he, zbind_some]
    have hi := tIs_iff hp hW hl
    by_cases c : tIs L p W = true
    · obtain ⟨g1, g2⟩ := hi.mp c
      rw [if_pos g1, if_pos (lgc_eq.mpr (by rw [g2])), if_pos (show tWd L W (.inl p) = true from c)]
    · rw [if_neg (show ¬ tWd L W (.inl p) = true from c)]
      by_cases g1 : tWe L p - p ≤ 8
      · have hb2 : tHs L p (tWe L p - p) < 2 ^ 63 := by
          have h1 := tHs_lt (tWe L p - p) (tWe_lt hp)
          have h2 : 27 ^ (tWe L p - p) ≤ 27 ^ 8 := Nat.pow_le_pow_right (by decide) g1
          have h3 : 27 ^ 8 < 2 ^ 63 := by decide
          omega
        rw [if_pos g1, if_neg (fun z => c (hi.mpr ⟨g1, nJ_inj hb2 hb1 (lgc_eq.mp z)⟩))]
      · rw [if_neg g1, if_neg (fun z => nJ_neg hb1 (lgc_eq.mp z))]
  | inr f =>
    rw [if_neg (rdM_n h)]
    exact ⟨v, rfl, h, fun p hp => (by cases hp), fr2_rf v⟩
theorem p_skip0 {L : List Nat} {p : Nat} (hp : p ≤ L.length) : ∀ (d n j : Nat) (v : zV), p + j + d = tWe L p → d < n → bBM L v → v 116 4 = nI (p + j) → ∃ w, fX10_skipWord_0 n 116 v = some w ∧ w 116 4 = nI (tWe L p) ∧ (∀ a, a ≠ 116 → w a = v a) ∧ ∀ k, k ≠ 4 → w 116 k = v 116 k := by
  have hle := tWe_le L hp
  intro d
  induction d with
  | zero =>
    intro n j v e hn h h4
    obtain ⟨n, rfl⟩ : ∃ k, n = k + 1 := ⟨n - 1, by omega⟩
    have hL := h.1
    refine ⟨v, ?_, by rw [h4]; exact congrArg nI e, fun _ _ => rfl, fun _ _ => rfl⟩
    rw [fX10_skipWord_0]
    dsimp only
    rw [h4, byteAt_M h (by omega), zbind_some, isLtM, isLt_at (fun q => (h.2.2 _ q).2), zbind_some, if_neg (show ¬ (p + j < L.length ∧ bLt L (p + j) = true) by rw [show p + j = tWe L p by omega]; exact tWe_out hp), if_pos rfl]
  | succ d ih =>
    intro n j v e hn h h4
    obtain ⟨n, rfl⟩ : ∃ k, n = k + 1 := ⟨n - 1, by omega⟩
    have hL := h.1
    have hin := tWe_in (i := j) hp (by omega)
    obtain ⟨w, hw, w4, wa, wk⟩ := ih n (j + 1) (zup v 116 4 (nI (p + (j + 1)))) (by omega) (by omega) (bBM_f h (fr2_4 v _)) (p_up_s _ _ _ _)
    refine ⟨w, ?_, w4, fun a g => (wa a g).trans (p_up_a _ _ _ g), fun k g => (wk k g).trans (p_up_n _ _ (Or.inr g))⟩
    rw [fX10_skipWord_0]
    dsimp only
    rw [h4, byteAt_M h (by omega), zbind_some, isLtM, isLt_at (fun q => (h.2.2 _ q).2), zbind_some, if_pos hin, if_neg (show ¬ (1 : Int32) = 0 by decide), zlet_eq, h4, show (nI (p + j) + 1 : Int32) = nI (p + (j + 1)) from nI_add _ 1, hw]
/-- a word that stands here is gone over -/
theorem p_skipWord {L : List Nat} {p : Nat} {v : zV} (h : rdM L (.inl p) v) (hx : exM (.inl p) v) : ∃ w, fX10_skipWord 116 v = some w ∧ rdM L (.inl (tSk L (tWe L p))) w ∧ fr2 v w := by
  have hp := (rdM_np h).1
  have hL := h.1.1
  have hge := tWe_ge L p
  have hle := tWe_le L hp
  obtain ⟨w, hw, w4, wa, wk⟩ := p_skip0 hp (tWe L p - p) zFU 0 v (by omega) (by unfold zFU; omega) h.1 (hx p rfl)
  exact ⟨w, hw, rdM_at h (mk_fr wa wk) (wk 5 (by decide)) (wk 6 (by decide)) hle w4, mk_fr wa wk⟩
theorem tIs_we {L W : List Nat} {p : Nat} (h : tIs L p W = true) : tWe L p = p + W.length := by
  unfold tIs at h
  rw [Bool.and_eq_true] at h
  exact of_decide_eq_true h.1
theorem tTk_1 (L W : List Nat) (τ : rdE) : (tTk L W τ).1 = tWd L W τ := by
  cases τ with
  | inl p =>
    unfold tTk tWd
    dsimp only
    by_cases c : tIs L p W = true
    · rw [if_pos c, c]
    · rw [if_neg c]; exact (Bool.eq_false_iff.mpr c).symm
  | inr f => rfl
theorem p_takes {L : List Nat} {τ : rdE} {v : zV} (h : rdM L τ v) {W : List Nat} (hW : W.length ≤ 8) (hl : ∀ i, i < W.length → 97 ≤ bA W i ∧ bA W i ≤ 122) {c1 c2 c3 c4 c5 c6 c7 c8 : Int32} (he : ∀ v, fX10_eight c1 c2 c3 c4 c5 c6 c7 c8 v = some (nJ (tHs W 0 W.length), v)) : ∃ w, fX10_takes 116 c1 c2 c3 c4 c5 c6 c7 c8 v = some (if (tTk L W τ).1 = true then 1 else 0, w) ∧ rdM L (tTk L W τ).2 w ∧ fr2 v w := by
  obtain ⟨u, hu, hR, hX, hf⟩ := p_isWord h hW hl he
  unfold fX10_takes
  rw [hu, zbind_some, tTk_1]
  by_cases c : tWd L W τ = true
  · cases τ with
    | inr f => cases c
    | inl p =>
      obtain ⟨w, hw, wR, wf⟩ := p_skipWord hR hX
      have c2 : tIs L p W = true := c
      have e : tTk L W (.inl p) = (true, .inl (tSk L (p + W.length))) := if_pos c2
      rw [tIs_we c2] at wR
      refine ⟨w, ?_, by rw [e]; exact wR, fr2_tr hf wf⟩
      simp only [c, if_true]
      rw [if_neg (show ¬ (1 : Int32) = 0 by decide), hw, zbindv_some]
      rfl
  · have e : (tTk L W τ).2 = τ := by
      cases τ with
      | inl p => exact congrArg Prod.snd (if_neg c : tTk L W (.inl p) = (false, .inl p))
      | inr f => rfl
    refine ⟨u, ?_, by rw [e]; exact hR, hf⟩
    simp only [c]
    rfl
/-! the words that are asked for -/
theorem wl_at (i : Nat) (hi : i < 16) : (tW i).length ≤ 8 ∧ ∀ k, k < (tW i).length → 97 ≤ bA (tW i) k ∧ bA (tW i) k ≤ 122 := ⟨(tW_at i hi).2.2.2.1, fun k hk => ((tW_at i hi).2.2.1 k hk).2⟩
theorem w_0 (v : zV) : fX10_eight 17 21 5 19 20 9 15 14 v = some (nJ (tHs (tW 0) 0 (tW 0).length), v) := rfl
theorem w_1 (v : zV) : fX10_eight 13 1 14 0 0 0 0 0 v = some (nJ (tHs (tW 1) 0 (tW 1).length), v) := rfl
theorem w_2 (v : zV) : fX10_eight 19 5 1 20 0 0 0 0 v = some (nJ (tHs (tW 2) 0 (tW 2).length), v) := rfl
theorem w_3 (v : zV) : fX10_eight 3 8 1 9 18 19 0 0 v = some (nJ (tHs (tW 3) 0 (tW 3).length), v) := rfl
theorem w_4 (v : zV) : fX10_eight 4 9 5 19 0 0 0 0 v = some (nJ (tHs (tW 4) 0 (tW 4).length), v) := rfl
theorem w_5 (v : zV) : fX10_eight 16 18 1 9 19 5 0 0 v = some (nJ (tHs (tW 5) 0 (tW 5).length), v) := rfl
theorem w_6 (v : zV) : fX10_eight 12 5 1 19 20 0 0 0 v = some (nJ (tHs (tW 6) 0 (tW 6).length), v) := rfl
theorem w_7 (v : zV) : fX10_eight 13 15 19 20 0 0 0 0 v = some (nJ (tHs (tW 7) 0 (tW 7).length), v) := rfl
theorem w_8 (v : zV) : fX10_eight 4 9 6 6 5 18 19 0 v = some (nJ (tHs (tW 8) 0 (tW 8).length), v) := rfl
theorem w_9 (v : zV) : fX10_eight 1 7 18 5 5 19 0 0 v = some (nJ (tHs (tW 9) 0 (tW 9).length), v) := rfl
theorem w_10 (v : zV) : fX10_eight 23 1 9 20 19 0 0 0 v = some (nJ (tHs (tW 10) 0 (tW 10).length), v) := rfl
theorem w_11 (v : zV) : fX10_eight 1 7 5 0 0 0 0 0 v = some (nJ (tHs (tW 11) 0 (tW 11).length), v) := rfl
theorem w_12 (v : zV) : fX10_eight 14 21 13 2 5 18 0 0 v = some (nJ (tHs (tW 12) 0 (tW 12).length), v) := rfl
theorem w_13 (v : zV) : fX10_eight 25 5 1 18 0 0 0 0 v = some (nJ (tHs (tW 13) 0 (tW 13).length), v) := rfl
theorem w_14 (v : zV) : fX10_eight 19 1 20 0 0 0 0 0 v = some (nJ (tHs (tW 14) 0 (tW 14).length), v) := rfl
theorem w_15 (v : zV) : fX10_eight 22 15 9 4 0 0 0 0 v = some (nJ (tHs (tW 15) 0 (tW 15).length), v) := rfl
end
