/-! PATRONS, gone on -/
section
theorem p_pairsI {v0 w : zV} {α : sA} {l : sL} {ρ : sR} (h : CQ v0 α l ρ) (ho : OKs α l ρ) (hf : frC v0 w) {x m o : Nat} (h60 : ∀ a b, a < 17 → b < 17 → w 60 (a * 17 + b) = oI (sOt α l ρ x a b)) (hm : m < 16) (hoo : o < 16) (K : Nat → Int32 → Int32 → Int32 → Int32 → Int32 → Int32 → zV → Option (Int32 × zV)) (wh : Int32) {a : Nat} (ha : a < 17) (s : Nat × Int32) (hs : s.1 ≤ 1000) : fX4_quietPairs_119 K zFU 52 (nI m) (nI o) wh (nI s.1) s.2 (nI a) 0 w = K 52 (nI m) (nI o) wh (nI (sQpL α l ρ x m o 17 a s).1) (sQpL α l ρ x m o 17 a s).2 (nI (a + 1)) w := by
  refine lpI (fun n j (s : Nat × Int32) => fX4_quietPairs_119 K n 52 (nI m) (nI o) wh (nI s.1) s.2 (nI a) (nI j) w) (sQpS α l ρ x m o a) 17 (fun s => K 52 (nI m) (nI o) wh (nI s.1) s.2 (nI (a + 1)) w) (fun j t => t.1 ≤ 1000 + j) (fun n s _ => ?_) (fun n j s hj hs => ⟨?_, by have := sQpS_le α l ρ x m o a j s; omega⟩) 17 zFU 0 s rfl (by unfold zFU; omega) hs
  · show fX4_quietPairs_119 K (n + 1) 52 (nI m) (nI o) wh (nI s.1) s.2 (nI a) (nI 17) w = _
    rw [fX4_quietPairs_119]
    dsimp only
    rw [if_pos (by decide), nI_1]
  · show fX4_quietPairs_119 K (n + 1) 52 (nI m) (nI o) wh (nI s.1) s.2 (nI a) (nI j) w = fX4_quietPairs_119 K n 52 (nI m) (nI o) wh (nI (sQpS α l ρ x m o a j s).1) (sQpS α l ρ x m o a j s).2 (nI a) (nI (j + 1)) w
    have g1 := p_isOpen h ho hf ha
    have g2 := p_isOpen h ho hf hj
    have g3 := p_isQuiet h ho hf h60 ha hj hm hoo
    rw [fX4_quietPairs_119]
    dsimp only
    rw [if_neg (show ¬ (17 : Int32) ≤ nI j from nI_ge (b := 17) hj (by decide))]
    unfold sQpS
    simp (disch := omega) only [g1, g2, g3, zbind_some, i_0, i_1, i_100, zb_eq, nI_eq', nI_add, pk_mul]
    cases sOpn α ρ a with
    | false => rfl
    | true =>
      cases sOpn α ρ j with
      | false => rfl
      | true =>
        cases sQt α l ρ x m o a j with
        | false => rfl
        | true =>
          rw [if_neg (show ¬ ¬ (true = true) by decide), if_pos (show (true && (true && true)) = true from rfl)]
          by_cases c : s.1 = 0
          · rw [if_pos c, if_pos c]
            rfl
          · rw [if_neg c, if_neg c]
            rfl
theorem p_pairsO {v0 w : zV} {α : sA} {l : sL} {ρ : sR} (h : CQ v0 α l ρ) (ho : OKs α l ρ) (hf : frC v0 w) {x m o : Nat} (h60 : ∀ a b, a < 17 → b < 17 → w 60 (a * 17 + b) = oI (sOt α l ρ x a b)) (hm : m < 16) (hoo : o < 16) {what : Nat} (hw : what ≤ 1) : fX4_quietPairs_109 zFU 52 (nI m) (nI o) (nI what) 0 (-1) 0 w = some (sQpO (sQp α l ρ x m o 17) what, w) := by
  refine lpI (fun n j (s : Nat × Int32) => fX4_quietPairs_109 n 52 (nI m) (nI o) (nI what) (nI s.1) s.2 (nI j) w) (sQpL α l ρ x m o 17) 17 (fun s => some (sQpO s what, w)) (fun j t => t.1 ≤ 17 * j) (fun n s _ => ?_) (fun n j s hj hs => ⟨?_, by have := sQpL_le α l ρ x m o 17 j s; omega⟩) 17 zFU 0 (0, -1) rfl (by unfold zFU; omega) (Nat.le_refl _)
  · show fX4_quietPairs_109 (n + 1) 52 (nI m) (nI o) (nI what) (nI s.1) s.2 (nI 17) w = _
    rw [fX4_quietPairs_109]
    dsimp only
    rw [if_pos (by decide)]
    unfold sQpO
    simp (disch := omega) only [i_0, nI_eq']
    split <;> rfl
  · show fX4_quietPairs_109 (n + 1) 52 (nI m) (nI o) (nI what) (nI s.1) s.2 (nI j) w = fX4_quietPairs_109 n 52 (nI m) (nI o) (nI what) (nI (sQpL α l ρ x m o 17 j s).1) (sQpL α l ρ x m o 17 j s).2 (nI (j + 1)) w
    rw [fX4_quietPairs_109]
    dsimp only
    rw [if_neg (show ¬ (17 : Int32) ≤ nI j from nI_ge (b := 17) hj (by decide))]
    exact p_pairsI h ho hf h60 hm hoo (fX4_quietPairs_109 n) (nI what) hj s (by omega)
theorem p_patrons {v : zV} {α : sA} {l : sL} {ρ : sR} (h : CQ v α l ρ) (ho : OKs α l ρ) {x m o what : Nat} (hm : m < 16) (hoo : o < 16) (hw1 : what ≤ 1) : ∃ w, fX4_quietPairs 52 (nI m) (nI o) (nI x) (nI what) v = some (sQpO (sQp α l ρ x m o 17) what, w) ∧ frC v w := by
  obtain ⟨w, hw, hS, hsc⟩ := p_scoreYear h ho
  unfold fX4_quietPairs
  rw [hw, zbindv_some]
  have : ∀ (d n a : Nat) (u : zV), a + d = 17 → d < n → okTb v α l ρ x (w 51) (a * 17) u → ∃ y, fX4_quietPairs_7 n 52 (nI m) (nI o) (nI x) (nI what) (nI a) u = some (sQpO (sQp α l ρ x m o 17) what, y) ∧ frC v y := by
    intro d
    induction d with
    | zero =>
      intro n a u ha hn hT
      obtain ⟨n, rfl⟩ : ∃ k, n = k + 1 := ⟨n - 1, by omega⟩
      obtain rfl : a = 17 := by omega
      refine ⟨u, ?_, hT.1.2.2⟩
      rw [fX4_quietPairs_7]
      dsimp only
      rw [if_pos (by decide)]
      exact p_pairsO h ho hT.1.2.2 (fun a b g1 g2 => hT.2.2 a b g1 g2 (by omega)) hm hoo hw1
    | succ d ih =>
      intro n a u ha hn hT
      obtain ⟨n, rfl⟩ : ∃ k, n = k + 1 := ⟨n - 1, by omega⟩
      obtain ⟨y, hy, hyT⟩ := p_fillI ho (fun k hk hs => hsc k hk hs) (fX4_quietPairs_7 n) (nI m) (nI o) (nI what) (show a < 17 by omega) 17 zFU 0 u rfl (by unfold zFU; omega) hT
      obtain ⟨z, hz, hzf⟩ := ih n (a + 1) y (by omega) (by omega) hyT
      refine ⟨z, ?_, hzf⟩
      rw [fX4_quietPairs_7]
      dsimp only
      rw [if_neg (show ¬ (17 : Int32) ≤ nI a from nI_ge (b := 17) (by omega) (by decide))]
      exact hy.trans hz
  exact this 17 zFU 0 w rfl (by unfold zFU; omega) ⟨hS, fun _ => rfl, fun a b _ _ g => by omega⟩
/-! the reference -/
theorem p_mMayDo {v0 w : zV} {α : sA} {l : sL} {ρ : sR} (h : MQ' v0 α l ρ) (ho : OKs α l ρ) (hf : frM v0 w) {c : Nat} (hc : c ≤ α 0 1) : fX10_mayDo 116 (nI c - 1) w = some (if sOpn α ρ c = true then 1 else 0, w) := by
  have hQ := MQ'_f ho.1 ho.2.1 h hf
  have hM := ho.1.1.2.1
  unfold fX10_mayDo sOpn
  by_cases h0 : c = 0
  · rw [h0, if_pos (show nI 0 - 1 = (-1 : Int32) from rfl)]
    rfl
  · have hst := hQ.2.1.2.1 (c - 1) (by omega)
    have hs4 := ho.2.2.1.2.2.2.1 (c - 1)
    rw [decide_eq_false h0, Bool.false_or, decide_eq_true hc, Bool.true_and, i_1, nI_sub' (by omega), if_neg (show ¬ nI (c - 1) = -nI 1 from fun q => by rw [ng_eq (by omega) (by decide) (by decide)] at q; exact q)]
    simp (disch := omega) only [↓reduceIte, i_0, i_1, i_2, i_3, i_4, i_5, i_6, i_7, i_8, i_9, i_10, i_11, i_12, i_13, i_14, i_15, i_16, i_17, i_18, i_19, i_20, i_21, i_22, i_23, i_24, i_25, i_26, i_27, i_28, i_29, i_30, i_31, i_32, i_33, i_34, i_35, i_36, i_37, i_38, i_39, i_40, i_41, i_42, i_43, i_44, i_45, i_46, i_47, i_48, i_49, i_50, i_51, i_52, i_53, i_54, i_55, i_56, i_57, i_58, i_59, i_60, i_61, i_62, i_63, i_91, i_93, i_97, i_98, i_99, i_100, i_101, i_102, i_103, i_104, i_122, i_150, i_200, i_255, i_305, i_600, i_729, i_999, i_1365, i_12345, i_32767, i_65536, i_100000, i_1000000, i_1103515245, zlet_eq, zbind_some, zbindv_some, ofN_nI, nI_add, pk_mul, nI_sub', nI_addg, gg_sub, nI_cl', zix_nI, rf_116_9, rf_116_10, rf_116_11, rf_116_12, rf_116_13, rf_116_14, rf_116_15, rf_116_16, rf_116_17, rf_116_18, rf_116_19, rf_116_20, rf_116_21, rf_116_22, rf_116_23, rf_116_24, rf_116_28, rf_116_29, rf_116_30, rf_116_31, rf_116_32, rf_116_33, rf_116_34, rf_116_35, rf_116_36, rf_116_37, rf_116_38, rf_116_39, rf_116_43, rf_116_49, rf_116_51, rf_116_54, rf_116_55, rf_116_56, rf_116_59, ln_127, ln_144, ln_161, ln_174, ln_187, ln_200, ln_213, ln_374, ln_535, ln_548, ln_561, ln_572, ln_577, ln_582, ln_117, ln_118, ln_119, ln_120, ln_121, ln_122, ln_123, ln_124, ln_125, ln_126, ln_565, ln_566, ln_567, ln_568, ln_569, ln_570, ln_571, ln_576, ln_600, ln_601, ln_602, ln_603, Nat.zero_add, hst, nI_eq', decide_eq_true_eq]
    split <;> rfl
/-- the reference's table ahead of (a, b), of what may be done -/
def okTm (v0 : zV) (α : sA) (l : sL) (ρ : sR) (x a0 b0 : Nat) (w : zV) : Prop := frM v0 w ∧ ∀ a b, a ≤ α 0 1 → b ≤ α 0 1 → sOpn α ρ a = true → sOpn α ρ b = true → (a < a0 ∨ (a = a0 ∧ b < b0)) → w (583 + a) b = oI (sOt α l ρ x a b)
theorem p_mFillI {v0 : zV} {α : sA} {l : sL} {ρ : sR} (h : MQ' v0 α l ρ) (ho : OKs α l ρ) {x : Nat} (K : Nat → Int32 → Int32 → Int32 → Int32 → Int32 → zV → Option (Int32 × zV)) (m o wh : Int32) {a : Nat} (ha : a ≤ α 0 1) : ∀ (d n b : Nat) (w : zV), b + d = α 0 1 + 1 → d < n → okTm v0 α l ρ x a b w → ∃ u, fX10_patrons_115 K n 116 m o (nI x) wh (nI a) (nI b) w = K 116 m o (nI x) wh (nI (a + 1)) u ∧ okTm v0 α l ρ x (a + 1) 0 u := by
  have hM := ho.1.1.2.1
  have r1 := rfa_582 a (by omega)
  have l1 := lna_582 a (by omega)
  intro d
  induction d with
  | zero =>
    intro n b w hbd hn hT
    obtain ⟨n, rfl⟩ : ∃ k, n = k + 1 := ⟨n - 1, by omega⟩
    obtain rfl : b = α 0 1 + 1 := by omega
    have h120 := (MQ'_f ho.1 ho.2.1 h hT.1).1.1.1 1 (by decide)
    refine ⟨w, ?_, hT.1, fun a' b' g1 g2 g3 g4 g5 => hT.2 a' b' g1 g2 g3 g4 (by omega)⟩
    rw [fX10_patrons_115]
    dsimp only
    simp (disch := omega) only [i_1, rf_116_12, ln_120, zix_nI, nI_cl', h120, nI_add]
    rw [if_pos (nI_lt (by omega) (by omega))]
  | succ d ih =>
    intro n b w hbd hn hT
    obtain ⟨n, rfl⟩ : ∃ k, n = k + 1 := ⟨n - 1, by omega⟩
    have h120 := (MQ'_f ho.1 ho.2.1 h hT.1).1.1.1 1 (by decide)
    have g1 := p_mMayDo h ho hT.1 ha
    have g2 := p_mMayDo h ho hT.1 (show b ≤ α 0 1 by omega)
    rw [fX10_patrons_115]
    dsimp only
    simp only [g1, zbind_some, g2]
    rw [cO_oI, cO_oI]
    simp (disch := omega) only [zbind_some, i_0, i_1, zb_eq, rf_116_12, ln_120, zix_nI, nI_cl', h120, nI_add]
    rw [if_neg (nI_nlt (by omega) (by omega))]
    by_cases c1 : sOpn α ρ a = true
    · rw [if_neg (fun q => q c1)]
      by_cases c2 : sOpn α ρ b = true
      · rw [if_neg (fun q => q c2)]
        obtain ⟨u, hu, huf, hub⟩ := p_mTaken (MQ'_f ho.1 ho.2.1 h hT.1) ho (cO a) (cO b) (cO_lt (by omega)) (cO_lt (by omega)) (nI x)
        simp (disch := omega) only [rf_116_54, ln_582, zix_nI, nI_cl', r1, l1, hu, zbind_some, zlet_eq]
        refine ih n (b + 1) _ (by omega) (by omega) ⟨frM_tr hT.1 (frM_tr huf (frM_c (r := 583 + a) (by omega) (by omega) (fun c g => p_up_a _ _ _ g))), fun a' b' e1 e2 e3 e4 e5 => ?_⟩
        rw [p_up]
        by_cases e : 583 + a' = 583 + a ∧ b' = b
        · have ea : a' = a := by omega
          rw [if_pos e, ea, e.2]
          rfl
        · rw [if_neg e, hub (583 + a') (by omega) (by omega)]
          exact hT.2 a' b' e1 e2 e3 e4 (by omega)
      · rw [if_pos c2]
        refine ih n (b + 1) w (by omega) (by omega) ⟨hT.1, fun a' b' e1 e2 e3 e4 e5 => hT.2 a' b' e1 e2 e3 e4 ?_⟩
        rcases e5 with e5 | e5
        · exact Or.inl e5
        · refine Or.inr ⟨e5.1, ?_⟩
          rcases Nat.lt_or_ge b' b with e6 | e6
          · exact e6
          · exact absurd (show sOpn α ρ b = true by rw [show b = b' by omega]; exact e4) c2
    · rw [if_pos c1]
      refine ih n (b + 1) w (by omega) (by omega) ⟨hT.1, fun a' b' e1 e2 e3 e4 e5 => hT.2 a' b' e1 e2 e3 e4 ?_⟩
      rcases e5 with e5 | e5
      · exact Or.inl e5
      · exact absurd (show sOpn α ρ a = true by rw [← e5.1]; exact e3) c1
/-- quiet for one of the two -/
def sQo (α : sA) (l : sL) (ρ : sR) (x own a b : Nat) (first : Bool) (c : Nat) : Bool := !sOpn α ρ c || !decide (sOt α l ρ x (if first = true then c else a) (if first = true then b else c) = some own)
def sQ1 (α : sA) (l : sL) (ρ : sR) (x own a b : Nat) (first : Bool) : Bool := decide (sOt α l ρ x a b = some own) || zal (sQo α l ρ x own a b first) (α 0 1 + 1) 0
theorem sQt_12 {α : sA} (hM : α 0 1 ≤ 16) (l : sL) (ρ : sR) (x m o a b : Nat) : sQt α l ρ x m o a b = (sQ1 α l ρ x m a b true && sQ1 α l ρ x o a b false) := by
  rw [Bool.eq_iff_iff]
  unfold sQt sQ1
  rw [zal_iff, Bool.and_eq_true, Bool.or_eq_true, Bool.or_eq_true, zal_iff, zal_iff]
  have e1 : ∀ c, sQo α l ρ x m a b true c = (!sOpn α ρ c || !decide (sOt α l ρ x c b = some m)) := fun _ => rfl
  have e2 : ∀ c, sQo α l ρ x o a b false c = (!sOpn α ρ c || !decide (sOt α l ρ x a c = some o)) := fun _ => rfl
  have e3 : ∀ c, sQok α l ρ x m o a b c = true ↔ (sQo α l ρ x m a b true c = true ∨ decide (sOt α l ρ x a b = some m) = true) ∧ (sQo α l ρ x o a b false c = true ∨ decide (sOt α l ρ x a b = some o) = true) := fun c => by
    rw [e1, e2]
    unfold sQok
    cases sOpn α ρ c <;> cases decide (sOt α l ρ x a b = some m) <;> cases decide (sOt α l ρ x c b = some m) <;> cases decide (sOt α l ρ x a b = some o) <;> cases decide (sOt α l ρ x a c = some o) <;> simp
  constructor
  · intro h
    refine ⟨?_, ?_⟩
    · by_cases c : decide (sOt α l ρ x a b = some m) = true
      · exact Or.inl c
      · exact Or.inr (fun y h1 h2 => (((e3 y).mp (h y h1 (by omega))).1).resolve_right c)
    · by_cases c : decide (sOt α l ρ x a b = some o) = true
      · exact Or.inl c
      · exact Or.inr (fun y h1 h2 => (((e3 y).mp (h y h1 (by omega))).2).resolve_right c)
  · rintro ⟨h1, h2⟩ y h3 h4
    rw [e3]
    by_cases hy : y ≤ α 0 1
    · refine ⟨?_, ?_⟩
      · rcases h1 with h1 | h1
        · exact Or.inr h1
        · exact Or.inl (h1 y (Nat.zero_le _) (by omega))
      · rcases h2 with h2 | h2
        · exact Or.inr h2
        · exact Or.inl (h2 y (Nat.zero_le _) (by omega))
    · rw [e1, e2, sOpn_out (by omega)]
      exact ⟨Or.inl rfl, Or.inl rfl⟩
theorem p_mIsQuiet {v0 w : zV} {α : sA} {l : sL} {ρ : sR} (h : MQ' v0 α l ρ) (ho : OKs α l ρ) {x : Nat} (hT : okTm v0 α l ρ x (α 0 1 + 1) 0 w) {a b own : Nat} (ha : a ≤ α 0 1) (hb : b ≤ α 0 1) (oa : sOpn α ρ a = true) (ob : sOpn α ρ b = true) (hown : own < 16) (first : Bool) : fX10_isQuiet 116 (nI own) (nI a) (nI b) (if first = true then 1 else 0) w = some (if sQ1 α l ρ x own a b first = true then 1 else 0, w) := by
  have hM := ho.1.1.2.1
  have hlt : ∀ a b, ∀ k, sOt α l ρ x a b = some k → k < 2 ^ 31 := fun a b k hk => sOut_lt ho.1 k hk
  have hcm : ∀ a b, (oI (sOt α l ρ x a b) = nI own) = (sOt α l ρ x a b = some own) := fun a b => oI_inj (hlt a b) (b := some own) (fun j hj => by cases hj; omega)
  have hbr : ∀ a b, a ≤ α 0 1 → b ≤ α 0 1 → sOpn α ρ a = true → sOpn α ρ b = true → w (583 + a) b = oI (sOt α l ρ x a b) := fun a b g1 g2 g3 g4 => hT.2 a b g1 g2 g3 g4 (Or.inl (by omega))
  have r1 := rfa_582 a (by omega)
  have l1 := lna_582 a (by omega)
  have g0 := hbr a b ha hb oa ob
  unfold fX10_isQuiet sQ1
  simp (disch := omega) only [rf_116_54, ln_582, zix_nI, nI_cl', r1, l1, g0, hcm]
  by_cases c0 : sOt α l ρ x a b = some own
  · rw [if_pos c0, decide_eq_true c0]
    rfl
  · rw [if_neg c0, decide_eq_false c0, Bool.false_or]
    have h120 := (MQ'_f ho.1 ho.2.1 h hT.1).1.1.1 1 (by decide)
    have : ∀ (d n c : Nat), c + d = α 0 1 + 1 → d < n → fX10_isQuiet_17 n 116 (nI own) (nI a) (nI b) (if first = true then 1 else 0) (nI c) w = some (if zal (sQo α l ρ x own a b first) d c = true then 1 else 0, w) := by
      intro d
      induction d with
      | zero =>
        intro n c hc hn
        obtain ⟨n, rfl⟩ : ∃ k, n = k + 1 := ⟨n - 1, by omega⟩
        rw [fX10_isQuiet_17]
        dsimp only
        simp (disch := omega) only [i_1, rf_116_12, ln_120, zix_nI, nI_cl', h120]
        rw [if_pos (nI_lt (by omega) (by omega))]
        rfl
      | succ d ih =>
        intro n c hc hn
        obtain ⟨n, rfl⟩ : ∃ k, n = k + 1 := ⟨n - 1, by omega⟩
        have hi := ih n (c + 1) (by omega) (by omega)
        have g1 := p_mMayDo h ho hT.1 (show c ≤ α 0 1 by omega)
        have r2 := rfa_582 c (by omega)
        have l2 := lna_582 c (by omega)
        rw [fX10_isQuiet_17]
        dsimp only
        rw [g1, zal]
        unfold fX10_isQuiet_54
        cases first with
        | true =>
          simp (disch := omega) only [↓reduceIte, zbind_some, i_0, i_1, zb_eq, rf_116_12, rf_116_54, ln_120, ln_582, zix_nI, nI_cl', h120, r1, l1, r2, l2, nI_add] at hi ⊢
          rw [hi, if_neg (nI_nlt (by omega) (by omega)), if_neg (show ¬ nI 1 = nI 0 by decide), if_neg (show ¬ nI 1 = nI 0 by decide)]
          by_cases c1 : sOpn α ρ c = true
          · have g2 := hbr c b (by omega) hb c1 ob
            rw [if_neg (fun q => q c1), g2]
            simp only [hcm]
            have e : sQo α l ρ x own a b true c = !decide (sOt α l ρ x c b = some own) := by
              show (!sOpn α ρ c || !decide (sOt α l ρ x c b = some own)) = _
              rw [c1]
              rfl
            rw [e]
            by_cases c2 : sOt α l ρ x c b = some own
            · rw [if_pos c2, decide_eq_true c2]
              rfl
            · rw [if_neg c2, decide_eq_false c2]
              rfl
          · have e : sQo α l ρ x own a b true c = true := by
              show (!sOpn α ρ c || _) = true
              rw [Bool.not_eq_true] at c1
              rw [c1]
              rfl
            rw [if_pos c1, e]
            rfl
        | false =>
          simp (disch := omega) only [↓reduceIte, Bool.false_eq_true, zbind_some, i_0, i_1, zb_eq, rf_116_12, rf_116_54, ln_120, ln_582, zix_nI, nI_cl', h120, r1, l1, r2, l2, nI_add] at hi ⊢
          rw [hi, if_neg (nI_nlt (by omega) (by omega))]
          by_cases c1 : sOpn α ρ c = true
          · have g2 := hbr a c ha (by omega) oa c1
            rw [if_neg (fun q => q c1), g2]
            simp only [hcm]
            have e : sQo α l ρ x own a b false c = !decide (sOt α l ρ x a c = some own) := by
              show (!sOpn α ρ c || !decide (sOt α l ρ x a c = some own)) = _
              rw [c1]
              rfl
            rw [e]
            by_cases c2 : sOt α l ρ x a c = some own
            · rw [if_pos c2, decide_eq_true c2]
              rfl
            · rw [if_neg c2, decide_eq_false c2]
              rfl
          · have e : sQo α l ρ x own a b false c = true := by
              show (!sOpn α ρ c || _) = true
              rw [Bool.not_eq_true] at c1
              rw [c1]
              rfl
            rw [if_pos c1, e]
            rfl
    exact this (α 0 1 + 1) zFU 0 (Nat.zero_add _) (by unfold zFU; omega)
theorem p_mPairsI {v0 w : zV} {α : sA} {l : sL} {ρ : sR} (h : MQ' v0 α l ρ) (ho : OKs α l ρ) {x : Nat} (hT : okTm v0 α l ρ x (α 0 1 + 1) 0 w) {m o : Nat} (hm : m < 16) (hoo : o < 16) (K : Nat → Int32 → Int32 → Int32 → Int32 → Int32 → Int32 → zV → Option (Int32 × zV)) (wh : Int32) {a : Nat} (ha : a ≤ α 0 1) (s : Nat × Int32) (hs : s.1 ≤ 1000) : fX10_patrons_206 K zFU 116 (nI m) (nI o) wh (nI s.1) s.2 (nI a) 0 w = K 116 (nI m) (nI o) wh (nI (sQpL α l ρ x m o (α 0 1 + 1) a s).1) (sQpL α l ρ x m o (α 0 1 + 1) a s).2 (nI (a + 1)) w := by
  have hM := ho.1.1.2.1
  have h120 := (MQ'_f ho.1 ho.2.1 h hT.1).1.1.1 1 (by decide)
  refine lpI (fun n j (s : Nat × Int32) => fX10_patrons_206 K n 116 (nI m) (nI o) wh (nI s.1) s.2 (nI a) (nI j) w) (sQpS α l ρ x m o a) (α 0 1 + 1) (fun s => K 116 (nI m) (nI o) wh (nI s.1) s.2 (nI (a + 1)) w) (fun j t => t.1 ≤ 1000 + j) (fun n s _ => ?_) (fun n j s hj hs => ⟨?_, by have := sQpS_le α l ρ x m o a j s; omega⟩) (α 0 1 + 1) zFU 0 s (Nat.zero_add _) (by unfold zFU; omega) hs
  · show fX10_patrons_206 K (n + 1) 116 (nI m) (nI o) wh (nI s.1) s.2 (nI a) (nI (α 0 1 + 1)) w = _
    rw [fX10_patrons_206]
    dsimp only
    simp (disch := omega) only [i_1, rf_116_12, ln_120, zix_nI, nI_cl', h120, nI_add]
    rw [if_pos (nI_lt (by omega) (by omega))]
  · show fX10_patrons_206 K (n + 1) 116 (nI m) (nI o) wh (nI s.1) s.2 (nI a) (nI j) w = fX10_patrons_206 K n 116 (nI m) (nI o) wh (nI (sQpS α l ρ x m o a j s).1) (sQpS α l ρ x m o a j s).2 (nI a) (nI (j + 1)) w
    have g1 := p_mMayDo h ho hT.1 ha
    have g2 := p_mMayDo h ho hT.1 (show j ≤ α 0 1 by omega)
    rw [fX10_patrons_206]
    dsimp only
    simp only [g1, zbind_some, g2]
    unfold sQpS
    rw [sQt_12 hM]
    by_cases oa : sOpn α ρ a = true
    · by_cases ob : sOpn α ρ j = true
      · have g3 := p_mIsQuiet h ho hT ha (show j ≤ α 0 1 by omega) oa ob hm true
        have g4 := p_mIsQuiet h ho hT ha (show j ≤ α 0 1 by omega) oa ob hoo false
        rw [if_pos rfl] at g3
        rw [if_neg (by decide)] at g4
        rw [g3, oa, ob]
        simp only [zbind_some, g4]
        simp (disch := omega) only [zbind_some, i_0, i_1, i_100, zb_eq, rf_116_12, ln_120, zix_nI, nI_cl', h120, nI_add, pk_mul, nI_eq']
        rw [if_neg (nI_nlt (by omega) (by omega))]
        cases sQ1 α l ρ x m a j true with
        | false => rfl
        | true =>
          cases sQ1 α l ρ x o a j false with
          | false => rfl
          | true =>
            rw [if_neg (show ¬ ¬ (true = true) by decide), if_pos (show (true && (true && (true && true))) = true from rfl)]
            by_cases c : s.1 = 0
            · rw [if_pos c, if_pos c]
              rfl
            · rw [if_neg c, if_neg c]
              rfl
      · rw [Bool.not_eq_true] at ob
        rw [oa, ob]
        simp (disch := omega) only [zbind_some, i_0, i_1, zb_eq, rf_116_12, ln_120, zix_nI, nI_cl', h120, nI_add]
        rw [if_neg (nI_nlt (by omega) (by omega))]
        rfl
    · rw [Bool.not_eq_true] at oa
      rw [oa]
      simp (disch := omega) only [zbind_some, i_0, i_1, zb_eq, rf_116_12, ln_120, zix_nI, nI_cl', h120, nI_add]
      rw [if_neg (nI_nlt (by omega) (by omega))]
      rfl
theorem p_mPatrons {v : zV} {α : sA} {l : sL} {ρ : sR} (h : MQ' v α l ρ) (ho : OKs α l ρ) {x m o what : Nat} (hm : m < 16) (hoo : o < 16) (hw1 : what ≤ 1) : ∃ w, fX10_patrons_101 zFU 116 (nI m) (nI o) (nI x) (nI what) 0 v = some (sQpO (sQp α l ρ x m o 17) what, w) ∧ frM v w := by
  have hM := ho.1.1.2.1
  have hfin : ∀ u : zV, okTm v α l ρ x (α 0 1 + 1) 0 u → fX10_patrons_192 zFU 116 (nI m) (nI o) (nI what) 0 (-1) 0 u = some (sQpO (sQp α l ρ x m o 17) what, u) := by
    intro u hT
    have h120 := (MQ'_f ho.1 ho.2.1 h hT.1).1.1.1 1 (by decide)
    rw [sQp_N hM]
    refine lpI (fun n j (s : Nat × Int32) => fX10_patrons_192 n 116 (nI m) (nI o) (nI what) (nI s.1) s.2 (nI j) u) (sQpL α l ρ x m o (α 0 1 + 1)) (α 0 1 + 1) (fun s => some (sQpO s what, u)) (fun j t => t.1 ≤ 17 * j) (fun n s _ => ?_) (fun n j s hj hs => ⟨?_, by have := sQpL_le α l ρ x m o (α 0 1 + 1) j s; omega⟩) (α 0 1 + 1) zFU 0 (0, -1) (Nat.zero_add _) (by unfold zFU; omega) (Nat.le_refl _)
    · show fX10_patrons_192 (n + 1) 116 (nI m) (nI o) (nI what) (nI s.1) s.2 (nI (α 0 1 + 1)) u = _
      rw [fX10_patrons_192]
      dsimp only
      unfold sQpO
      simp (disch := omega) only [i_0, i_1, rf_116_12, ln_120, zix_nI, nI_cl', h120, nI_eq']
      rw [if_pos (nI_lt (by omega) (by omega))]
      split <;> rfl
    · show fX10_patrons_192 (n + 1) 116 (nI m) (nI o) (nI what) (nI s.1) s.2 (nI j) u = fX10_patrons_192 n 116 (nI m) (nI o) (nI what) (nI (sQpL α l ρ x m o (α 0 1 + 1) j s).1) (sQpL α l ρ x m o (α 0 1 + 1) j s).2 (nI (j + 1)) u
      rw [fX10_patrons_192]
      dsimp only
      simp (disch := omega) only [i_1, rf_116_12, ln_120, zix_nI, nI_cl', h120]
      rw [if_neg (nI_nlt (by omega) (by omega))]
      exact p_mPairsI h ho hT hm hoo (fX10_patrons_192 n) (nI what) (by omega) s (by omega)
  have : ∀ (d n a : Nat) (u : zV), a + d = α 0 1 + 1 → d < n → okTm v α l ρ x a 0 u → ∃ y, fX10_patrons_101 n 116 (nI m) (nI o) (nI x) (nI what) (nI a) u = some (sQpO (sQp α l ρ x m o 17) what, y) ∧ frM v y := by
    intro d
    induction d with
    | zero =>
      intro n a u ha hn hT
      obtain ⟨n, rfl⟩ : ∃ k, n = k + 1 := ⟨n - 1, by omega⟩
      obtain rfl : a = α 0 1 + 1 := by omega
      have h120 := (MQ'_f ho.1 ho.2.1 h hT.1).1.1.1 1 (by decide)
      refine ⟨u, ?_, hT.1⟩
      rw [fX10_patrons_101]
      dsimp only
      have hx := hfin u hT
      simp (disch := omega) only [i_1, rf_116_12, ln_120, zix_nI, nI_cl', h120] at hx ⊢
      rw [if_pos (nI_lt (by omega) (by omega))]
      exact hx
    | succ d ih =>
      intro n a u ha hn hT
      obtain ⟨n, rfl⟩ : ∃ k, n = k + 1 := ⟨n - 1, by omega⟩
      have h120 := (MQ'_f ho.1 ho.2.1 h hT.1).1.1.1 1 (by decide)
      obtain ⟨y, hy, hyT⟩ := p_mFillI h ho (x := x) (fX10_patrons_101 n) (nI m) (nI o) (nI what) (show a ≤ α 0 1 by omega) (α 0 1 + 1) zFU 0 u (Nat.zero_add _) (by unfold zFU; omega) hT
      obtain ⟨z, hz, hzf⟩ := ih n (a + 1) y (by omega) (by omega) hyT
      refine ⟨z, ?_, hzf⟩
      rw [fX10_patrons_101]
      dsimp only
      simp (disch := omega) only [i_1, rf_116_12, ln_120, zix_nI, nI_cl', h120] at hy ⊢
      rw [if_neg (nI_nlt (by omega) (by omega))]
      exact hy.trans hz
  exact this (α 0 1 + 1) zFU 0 v (Nat.zero_add _) (by unfold zFU; omega) ⟨frM_rf v, fun a b _ _ _ _ g => by omega⟩
end
