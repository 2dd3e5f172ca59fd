/-! praise on trial: WANTS, and what the PATRONS bring about -/
section
theorem sGre_cg {α : sA} {ρ : sR} {f g : Nat → Int32} (h : ∀ k, k < α 0 1 → f k = g k) : sGre α ρ f = sGre α ρ g := by
  unfold sGre
  rw [zit_cg (g := sGreS ρ f) (h := sGreS ρ g) (α 0 1) 0 (none, 0) (fun k s _ hk => by
    unfold sGreS
    rw [h k (by omega)])]
theorem sChoose_cg {α : sA} {ρ : sR} {f g : Nat → Int32} (h : ∀ k, k < α 0 1 → f k = g k) : sChoose α ρ f = sChoose α ρ g := by
  unfold sChoose
  rw [sGre_cg h]
theorem sChoose_hp (α : sA) (l : sL) (ρ : sR) (h : Nat → Nat → Int32) : sChoose α (sHp ρ h) (sScore α l (sHp ρ h)) = sChoose α ρ (fun k => sScore α l ρ k + h (sSc ρ 0) k) := by
  unfold sChoose
  by_cases c : (sCh ρ).length = 0
  · rw [if_pos c, if_pos (show (sCh (sHp ρ h)).length = 0 from c)]
    rfl
  · rw [if_neg c, if_neg (show ¬ (sCh (sHp ρ h)).length = 0 from c)]
    have : sScore α l (sHp ρ h) = fun k => sScore α l ρ k + h (sSc ρ 0) k := funext fun k => by
      unfold sScore
      rw [if_neg c, if_neg (show ¬ (sCh (sHp ρ h)).length = 0 from c)]
      show sVal l (sFact α ρ k) + sPr α k (sSc ρ 0) + (sAs ρ k + h (sSc ρ 0) k) = _
      rw [Int32.add_assoc, Int32.add_assoc, Int32.add_assoc]
    rw [this]
    rfl
/-- how much more a man has, when two praise -/
def sBo (a b : Option Nat) (x : Int32) (k : Nat) : Int32 := (if a = some k then x else 0) + (if b = some k then x else 0)
theorem sBo_1 (m k : Nat) (x : Int32) : sBo (some m) none x k = if k = m then x else 0 := by
  unfold sBo
  by_cases c : k = m
  · subst c
    rw [if_pos rfl, if_pos rfl, if_neg (fun q => by cases q)]
    exact Int32.add_zero x
  · rw [if_neg c, if_neg (fun q => by cases q; exact c rfl), if_neg (fun q => by cases q)]
    rfl
def sOut (α : sA) (l : sL) (ρ : sR) (a b : Option Nat) (x : Int32) : Option Nat := sChoose α (sTell α ρ) (fun k => sScore α l (sTell α ρ) k + sBo a b x k)
theorem sOut_lt {α : sA} {l : sL} {ρ : sR} {a b : Option Nat} {x : Int32} (ha : okA α) : ∀ m, sOut α l ρ a b x = some m → m < 2 ^ 31 := fun m hm => by
  have := (sChoose_ok hm).1
  have := ha.1.2.1
  omega
theorem p_mTaken {v : zV} {α : sA} {l : sL} {ρ : sR} (h : MQ' v α l ρ) (ho : OKs α l ρ) (a b : Option Nat) (ha : ∀ m, a = some m → m < 16) (hb : ∀ m, b = some m → m < 16) (x : Int32) : ∃ w, fX10_takenBy 116 (oI a) (oI b) x v = some (oI (sOut α l ρ a b x), w) ∧ frM v w ∧ ∀ c, 583 ≤ c → c ≤ 599 → w c = v c := by
  have hyr := ho.2.2.2
  have hoY := ho.2.2.1.2.2.2.2.2.1
  obtain ⟨w0, hw0, hk0, ha0⟩ := p_mCopies m570 m567 (by decide) v
  have f0 : frM v w0 := frM_c (by decide) (by decide) ha0
  have hQ0 := MQ'_f ho.1 ho.2.1 h f0
  have h99 := hQ0.2.1.1.2.2.1
  unfold fX10_takenBy
  rw [rf_116_35, rf_116_38, hw0, zbindv_some]
  have r0 := rfa_572 0 (by decide)
  have r1 := rfa_572 1 (by decide)
  have l0 := lna_572 0 (by decide)
  have l1 := lna_572 1 (by decide)
  generalize hu : zup (zup (zup (zup (zup (zup w0 573 0 (nI (sSc ρ 0))) 573 1 (oI a)) 573 2 x) 574 0 (nI (sSc ρ 0))) 574 1 (oI b)) 574 2 x = u
  have hua : ∀ c, c ≠ 573 → c ≠ 574 → u c = w0 c := fun c g1 g2 => by rw [← hu]; simp (disch := omega) only [p_up_a]
  have e0 : fX10_takenBy_14 zFU 116 (oI a) (oI b) x 0 w0 = fX10_takenBy_71 116 u := by
    have g99 : ∀ (c k : Nat) (z : Int32) (y : zV), c ≠ 567 → y 567 99 = nI (sSc ρ 0) → zup y c k z 567 99 = nI (sSc ρ 0) := fun c k z y g1 g2 => by rw [p_up_a _ _ _ (Ne.symm g1)]; exact g2
    show fX10_takenBy_14 (99997 + 1 + 1 + 1) 116 (oI a) (oI b) x 0 w0 = _
    rw [fX10_takenBy_14]
    dsimp only
    rw [if_neg (by decide)]
    simp (disch := omega) only [↓reduceIte, i_0, i_1, i_2, i_99, rf_116_43, rf_116_35, ln_572, ln_567, zix_nI, nI_cl', zlet_eq, r0, l0, h99, nI_add, Nat.add_zero, Nat.zero_add]
    rw [fX10_takenBy_14]
    dsimp only
    rw [if_neg (by decide)]
    have n10 : (nI 1 = nI 0) = False := eq_false (by decide)
    have g3 : zup (zup (zup w0 573 0 (nI (sSc ρ 0))) 573 1 (oI a)) 573 2 x 567 99 = nI (sSc ρ 0) := g99 _ _ _ _ (by decide) (g99 _ _ _ _ (by decide) (g99 _ _ _ _ (by decide) h99))
    simp (disch := omega) only [↓reduceIte, i_0, i_1, i_2, i_99, rf_116_43, rf_116_35, ln_572, ln_567, zix_nI, nI_cl', zlet_eq, r1, l1, g3, n10, nI_add]
    rw [fX10_takenBy_14]
    dsimp only
    rw [if_pos (by decide), ← hu]
  rw [e0]
  unfold fX10_takenBy_71
  rw [zlet_eq]
  have hq : pME (zup u 116 44 2) α l := by
    refine ⟨MA_fr hQ0.1.1 ho.1 (fun c g1 g2 => (p_up_a _ _ _ (by omega)).trans (hua c (by omega) (by omega))), ML_fr hQ0.1.2 ho.2.1 ?_ (fun c g1 g2 => (p_up_a _ _ _ (by omega)).trans (hua c (by omega) (by omega)))⟩
    rw [p_up_n _ _ (Or.inr (by decide)), hua 116 (by decide) (by decide)]
  have e116 : ∀ k, k ≠ 44 → zup u 116 44 2 116 k = w0 116 k := fun k g => by rw [p_up_n _ _ (Or.inr g), hua 116 (by decide) (by decide)]
  have hR : MR 570 (zup u 116 44 2) ρ := MR_cp h.2.1 (fun k hk => by rw [p_up_a _ _ _ (by decide), hua 570 (by decide) (by decide), hk0 k hk])
  generalize hH : (fun y m => zsum (fun k => if zup u 116 44 2 (573 + k) 0 = nI y ∧ zup u 116 44 2 (573 + k) 1 = nI m then zup u 116 44 2 (573 + k) 2 else 0) 2) = H
  have hHP : HP (zup u 116 44 2) H := ⟨2, by decide, p_up_s _ _ _ _, fun y m _ _ => by rw [← hH]⟩
  obtain ⟨w, hw, hr, h50, hon⟩ := p_mGoes ho.1 ho.2.1 hq hHP (mo := none) (by rw [show MO (zup u 116 44 2) α none = (zup u 116 44 2 116 46 = -nI 1) from rfl, e116 46 (by decide)]; exact hQ0.2.2.2.1) (by rw [e116 47 (by decide)]; exact hQ0.2.2.2.2) m570 hR ho.2.2.1
  have hres : (sPassM α l none H ρ).1 = sOut α l ρ a b x := by
    show sChoose α (sHp (sTell α ρ) H) (sScore α l (sHp (sTell α ρ) H)) = _
    rw [sChoose_hp]
    refine sChoose_cg (fun k hk => ?_)
    have hM := ho.1.1.2.1
    have hc : ∀ (o : Option Nat), (∀ m, o = some m → m < 16) → (oI o = nI k) = (o = some k) := fun o hoo => by
      rw [show nI k = oI (some k) from rfl]
      exact oI_inj (fun m hm => by have := hoo m hm; omega) (fun m hm => by cases hm; omega)
    rw [(sTell_ok ho.1 ho.2.2.1).2, ← hH]
    show _ + ((0 + (if zup u 116 44 2 573 0 = nI (sSc ρ 0) ∧ zup u 116 44 2 573 1 = nI k then zup u 116 44 2 573 2 else 0)) + (if zup u 116 44 2 574 0 = nI (sSc ρ 0) ∧ zup u 116 44 2 574 1 = nI k then zup u 116 44 2 574 2 else 0)) = _ + sBo a b x k
    have q1 : u 573 0 = nI (sSc ρ 0) := by rw [← hu]; simp [p_up]
    have q2 : u 573 1 = oI a := by rw [← hu]; simp [p_up]
    have q3 : u 573 2 = x := by rw [← hu]; simp [p_up]
    have q4 : u 574 0 = nI (sSc ρ 0) := by rw [← hu]; simp [p_up]
    have q5 : u 574 1 = oI b := by rw [← hu]; simp [p_up]
    have q6 : u 574 2 = x := by rw [← hu]; simp [p_up]
    rw [p_up_a _ _ _ (show (573 : Nat) ≠ 116 by decide), p_up_a _ _ _ (show (574 : Nat) ≠ 116 by decide), q1, q2, q3, q4, q5, q6]
    unfold sBo
    simp only [hc a ha, hc b hb, true_and, Int32.zero_add]
  refine ⟨zup w 116 44 0, ?_, ⟨fun c g1 g2 g3 g4 => ?_, fun k g1 g2 g3 g4 g5 g6 g7 => ?_⟩, fun c g1 g2 => ?_⟩
  · rw [rf_116_38, hw, zbindv_some, zlet_eq, p_up_n _ _ (Or.inr (by decide)), h50, hres]
  · rw [p_up_a _ _ _ g1, hon.1 c (by omega) g2 g3 (by omega) g1, p_up_a _ _ _ g1, hua c (by omega) (by omega), f0.1 c g1 g2 g3 g4]
  · by_cases e : k = 44
    · rw [e, p_up_s]
      exact h.2.2.1.symm
    · rw [p_up_n _ _ (Or.inr e), hon.2 k g2 g3, e116 k e, f0.2 k g1 g2 g3 g4 g5 g6 g7]
  · rw [p_up_a _ _ _ (by omega), hon.1 c (by omega) (by omega) (by omega) (by omega) (by omega), p_up_a _ _ _ (by omega), hua c (by omega) (by omega), ha0 c (by omega)]
/-! WANTS -/
def sWantL (α : sA) (l : sL) (ρ : sR) (m : Nat) : Nat → Nat → Int32
  | 0, _ => -1
  | d + 1, x => if sOut α l ρ (some m) none (nI x) = some m then nI x else sWantL α l ρ m d (x + 1)
def sWants (α : sA) (l : sL) (ρ : sR) (m : Nat) : Int32 := if sSt ρ m = 0 then sWantL α l ρ m 100 0 else -1
theorem p_mWantL {v : zV} {α : sA} {l : sL} {ρ : sR} (h : MQ' v α l ρ) (ho : OKs α l ρ) {m : Nat} (hm : m < α 0 1) : ∀ (d n j : Nat) (w : zV), j + d = 100 → d < n → frM v w → ∃ u, fX10_wants_44 n 116 (nI m) (nI j) w = some (sWantL α l ρ m d j, u) ∧ frM v u := by
  have hM := ho.1.1.2.1
  intro d
  induction d with
  | zero =>
    intro n j w hj hn hf
    obtain ⟨n, rfl⟩ : ∃ k, n = k + 1 := ⟨n - 1, by omega⟩
    obtain rfl : j = 100 := by omega
    refine ⟨w, ?_, hf⟩
    rw [fX10_wants_44]
    dsimp only
    rw [if_pos (by decide)]
    rfl
  | succ d ih =>
    intro n j w hj hn hf
    obtain ⟨n, rfl⟩ : ∃ k, n = k + 1 := ⟨n - 1, by omega⟩
    obtain ⟨u, hu, huf, -⟩ := p_mTaken (MQ'_f ho.1 ho.2.1 h hf) ho (some m) none (fun k hk => by cases hk; omega) (fun k hk => by cases hk) (nI j)
    rw [fX10_wants_44]
    dsimp only
    rw [if_neg (show ¬ (99 : Int32) < nI j from nI_nlt (a := 99) (b := j) (by omega) (by decide)), show fX10_takenBy 116 (nI m) (-1) (nI j) w = _ from hu, zbind_some, sWantL, show (nI m : Int32) = oI (some m) from rfl]
    simp only [oI_inj (sOut_lt (l := l) (ρ := ρ) (a := some m) (b := none) (x := nI j) ho.1) (fun k (hk : some m = some k) => by cases hk; omega)]
    by_cases e : sOut α l ρ (some m) none (nI j) = some m
    · rw [if_pos e, if_pos e]
      exact ⟨u, rfl, frM_tr hf huf⟩
    · rw [if_neg e, if_neg e, nI_1]
      exact ih n (j + 1) u (by omega) (by omega) (frM_tr hf huf)
theorem p_mWants {v : zV} {α : sA} {l : sL} {ρ : sR} (h : MQ' v α l ρ) (ho : OKs α l ρ) {m : Nat} (hm : m < α 0 1) : ∃ w, (if v 567 m = 0 then fX10_wants_44 zFU 116 (nI m) 0 v else some ((-1 : Int32), v)) = some (sWants α l ρ m, w) ∧ frM v w := by
  have hM := ho.1.1.2.1
  have hs4 := ho.2.2.1.2.2.2.1 m
  unfold sWants
  rw [h.2.1.2.1 m (by omega)]
  simp (disch := omega) only [i_0, nI_eq']
  by_cases e : sSt ρ m = 0
  · obtain ⟨w, hw, hf⟩ := p_mWantL h ho hm 100 zFU 0 v rfl (by unfold zFU; omega) (frM_rf v)
    exact ⟨w, by rw [if_pos e, if_pos e]; exact hw, hf⟩
  · rw [if_neg e, if_neg e]
    exact ⟨v, rfl, frM_rf v⟩
/-! the class: this year's scores -/
def okSc (v0 : zV) (α : sA) (l : sL) (ρ : sR) (w : zV) : Prop := CE w α l ∧ RC 53 w (sTell α ρ) ∧ frC v0 w
theorem p_scoreYear {v : zV} {α : sA} {l : sL} {ρ : sR} (h : CQ v α l ρ) (ho : OKs α l ρ) : ∃ w, fX4_scoreThisYear 52 v = some w ∧ okSc v α l ρ w ∧ ∀ k, k < α 0 1 → sSt (sTell α ρ) k = 0 → w 51 k = sScore α l (sTell α ρ) k := by
  obtain ⟨w, hw, hT⟩ := p_trial h ho
  obtain ⟨u1, hu1, hr1, hon1⟩ := p_tell r53 ho.1 (ok_13 ho.1) hT.1.1 hT.2.1 ho.2.2.1
  have f1 : frC w u1 := frC_R (by decide) (by decide) hon1
  have hE1 := CE_f hT.1 f1
  obtain ⟨u2, hu2, hua, hus⟩ := p_scoreAll r53 ho.1 ho.2.1 hE1 hr1 (ok_13 ho.1) (sTell_ok ho.1 ho.2.2.1).1
  have f2 : frC u1 u2 := frC_s51 hua
  refine ⟨u2, ?_, ⟨CE_f hE1 f2, RC_sc51 r53 hr1 hua, frC_tr hT.2.2.2 (frC_tr f1 f2)⟩, hus⟩
  unfold fX4_scoreThisYear
  rw [rf_52_3, rf_52_2, hw, zbindv_some, rf_52_1, hu1, zbindv_some, hu2]
  rfl
theorem p_raise (a : Option Nat) (ha : ∀ m, a = some m → m < 16) (x : Int32) (v : zV) : fX4_raise 52 (oI a) x v = some (match a with
  | none => v
  | some k => zup v 51 k (v 51 k + x)) := by
  unfold fX4_raise
  rw [rf_52_1, rf_50_2]
  cases a with
  | none =>
    have h0 : oI none < (0 : Int32) := by rw [oI_none]; exact of_eq_true (ng_lt (a := 0) (k := 1) (by decide) (by decide) (by decide))
    rw [p_get0 (Or.inl h0), zbind_some, p_set0 (Or.inl h0)]
    rfl
  | some k =>
    have hk := ha k rfl
    rw [oI_some, p_get (by rw [ln_51]; exact hk), zbind_some, p_set (by rw [ln_51]; exact hk)]
    rfl
theorem okSc_up {v0 w : zV} {α : sA} {l : sL} {ρ : sR} (h : okSc v0 α l ρ w) (k : Nat) (x : Int32) : okSc v0 α l ρ (zup w 51 k x) := by
  have f : frC w (zup w 51 k x) := frC_up _ _ (by decide) (by decide)
  exact ⟨CE_f h.1 f, RC_fr h.2.1 (fun a g1 g2 => p_up_a _ _ _ (by omega)), frC_tr h.2.2 f⟩
theorem p_wantL {v : zV} {α : sA} {l : sL} {ρ : sR} (ho : OKs α l ρ) {m : Nat} (hm : m < α 0 1) : ∀ (d n j : Nat) (w : zV), j + d = 100 → d < n → okSc v α l ρ w → (∀ k, k < α 0 1 → sSt (sTell α ρ) k = 0 → w 51 k = sScore α l (sTell α ρ) k + sBo (some m) none (nI j) k) → ∃ u, fX4_praiseWanted_19 n 52 (nI m) (nI j) w = some (sWantL α l ρ m d j, u) ∧ frC v u := by
  have hM := ho.1.1.2.1
  have hoT := (sTell_ok ho.1 ho.2.2.1).1
  intro d
  induction d with
  | zero =>
    intro n j w hj hn hS hsc
    obtain ⟨n, rfl⟩ : ∃ k, n = k + 1 := ⟨n - 1, by omega⟩
    obtain rfl : j = 100 := by omega
    refine ⟨w, ?_, hS.2.2⟩
    rw [fX4_praiseWanted_19]
    dsimp only
    rw [if_pos (by decide)]
    rfl
  | succ d ih =>
    intro n j w hj hn hS hsc
    obtain ⟨n, rfl⟩ : ∃ k, n = k + 1 := ⟨n - 1, by omega⟩
    have hch := p_choose r53 ho.1 hS.1.1 hS.2.1 (ok_13 ho.1) hoT _ hsc
    rw [fX4_praiseWanted_19]
    dsimp only
    rw [if_neg (show ¬ (99 : Int32) < nI j from nI_nlt (a := 99) (b := j) (by omega) (by decide)), rf_52_1, rf_52_3, hch, zbind_some, sWantL, show (nI m : Int32) = oI (some m) from rfl]
    show ∃ u, (if oI (sOut α l ρ (some m) none (nI j)) = oI (some m) then _ else _) = _ ∧ _
    simp only [oI_inj (sOut_lt (l := l) (ρ := ρ) (a := some m) (b := none) (x := nI j) ho.1) (fun k (hk : some m = some k) => by cases hk; omega)]
    by_cases e : sOut α l ρ (some m) none (nI j) = some m
    · rw [if_pos e, if_pos e]
      exact ⟨w, rfl, hS.2.2⟩
    · rw [if_neg e, if_neg e, p_raise (some m) (fun k hk => by cases hk; omega), zbindv_some, nI_1]
      refine ih n (j + 1) _ (by omega) (by omega) (okSc_up hS _ _) (fun k hk hs => ?_)
      show zup w 51 m (w 51 m + 1) 51 k = _
      rw [p_up]
      have hk0 := hsc k hk hs
      rw [sBo_1] at hk0 ⊢
      by_cases c : k = m
      · subst c
        rw [if_pos rfl] at hk0
        rw [if_pos ⟨rfl, rfl⟩, if_pos rfl, hk0, ← nI_1 j, Int32.add_assoc]
      · rw [if_neg c] at hk0
        rw [if_neg (fun q => c q.2), if_neg c, hk0]
theorem p_wants {v : zV} {α : sA} {l : sL} {ρ : sR} (h : CQ v α l ρ) (ho : OKs α l ρ) {m : Nat} (hm : m < α 0 1) : ∃ w, fX4_praiseWanted 52 (nI m) v = some (sWants α l ρ m, w) ∧ frC v w := by
  have hwt := (eqC_of h ho).2.2.2.2.1 m hm
  unfold fX4_praiseWanted sWants
  rw [rf_52_2, hwt]
  simp only [zbind_some, i_0, i_1, zb_eq]
  by_cases e : sSt ρ m = 0
  · obtain ⟨w, hw, hS, hsc⟩ := p_scoreYear h ho
    obtain ⟨u, hu, huf⟩ := p_wantL (v := v) ho hm 100 zFU 0 w rfl (by unfold zFU; omega) hS (fun k hk hs => by
      rw [hsc k hk hs, sBo_1]
      split
      · exact (Int32.add_zero _).symm
      · exact (Int32.add_zero _).symm)
    refine ⟨u, ?_, huf⟩
    rw [if_neg (show ¬ ¬ sSt ρ m = 0 from fun q => q e), if_pos e, hw, zbindv_some]
    exact hu
  · rw [if_pos e, if_neg e]
    exact ⟨v, rfl, frC_rf v⟩
end
