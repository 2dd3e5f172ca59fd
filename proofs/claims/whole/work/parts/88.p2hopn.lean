section
/-! PRAISES: the reference's search -/
def sHopeS (α : sA) (l : sL) (m : Nat) (x : Int32) (d : Nat) (ρ : sR) (p w : Nat) (b : Bool) (c : Nat) (st : Option (Nat × Nat)) : Option (Nat × Nat) := if sOkc ρ c = true then sHope α l m x d (sStp α l x c ρ).2 (p + if c = 0 then 0 else 1) (100 * w + c) (b || decide ((sStp α l x c ρ).1 = some m)) st else st
theorem sHope_S (α : sA) (l : sL) (m : Nat) (x : Int32) (d : Nat) (ρ : sR) (p w : Nat) (b : Bool) (st : Option (Nat × Nat)) : sHope α l m x (d + 1) ρ p w b st = zit (sHopeS α l m x d ρ p w b) (α 0 1 + 1) 0 st := rfl
def pHope (α : sA) (l : sL) (Y m : Nat) (x : Int32) (d : Nat) (RC : Nat → Int32 → Int32 → Int32 → Int32 → Int32 → Int32 → Int32 → zV → Option zV) : Prop := ∀ (k : Nat) (ρ : sR) (p w : Nat) (b : Bool) (st : Option (Nat × Nat)) (v : zV), k + d = Y → p ≤ k → okR α ρ → sSc ρ 0 + d < 800 → pME v α l → MR (578 + k) v ρ → MQ0 v → pSM v st →
    ∃ u, RC 116 (nI m) (nI Y) x (nI k) (nI p) (nI w) (if b = true then nI 1 else nI 0) v = some u ∧ pSM u (sHope α l m x d ρ p w b st) ∧ onlyD k v u
theorem p_mHop45 {α : sA} {l : sL} (ha : okA α) (hl : okL l) {m Y : Nat} {x : Int32} (hY : Y ≤ 3) (hm : m < 16) {d k p w : Nat} {b : Bool} (hk : k + d + 1 = Y) (hp : p ≤ k) {ρ : sR} (ho : okR α ρ) (hy : sSc ρ 0 + d + 1 < 800) (RC : Nat → Int32 → Int32 → Int32 → Int32 → Int32 → Int32 → Int32 → zV → Option zV) (hRC : pHope α l Y m x d RC) : ∀ (r c n : Nat) (st : Option (Nat × Nat)) (v : zV), c + r = α 0 1 + 1 → r < n → pME v α l → MR (578 + k) v ρ → MQ0 v → pSM v st →
    ∃ u, fX10_hopesFor_45 RC n 116 (nI m) (nI Y) x (nI k) (nI p) (nI w) (if b = true then nI 1 else nI 0) (nI c + -nI 1) v = some u ∧ pSM u (zit (sHopeS α l m x d ρ p w b) r c st) ∧ onlyD k v u := by
  intro r
  have hM := ha.1.2.1
  have l120 : zlen 120 = 6 := by decide +kernel
  have l577 : zlen 577 = 4 := by decide +kernel
  have a0 := rfa_577 k (by omega)
  have l0 := lna_577 k (by omega)
  induction r with
  | zero =>
    intro c n st v hc hn hE hR h0 hS
    obtain ⟨n, rfl⟩ : ∃ k, n = k + 1 := ⟨n - 1, by omega⟩
    have h120 : v 120 1 = nI (α 0 1) := hE.1.1 1 (by decide)
    refine ⟨v, ?_, hS, frM_rf v, fun _ _ _ => rfl⟩
    rw [fX10_hopesFor_45, nI_addg (by omega)]
    dsimp only
    rw [rf_116_12]
    simp (disch := omega) only [i_1, zix_nI, nI_cl', l120, h120]
    rw [if_pos ((nI_leI (by omega) (by omega)).mpr (by omega))]
  | succ r ih =>
    intro c n st v hc hn hE hR h0 hS
    obtain ⟨n, rfl⟩ : ∃ k, n = k + 1 := ⟨n - 1, by omega⟩
    have h120 : v 120 1 = nI (α 0 1) := hE.1.1 1 (by decide)
    show ∃ u, _ ∧ pSM u (zit (sHopeS α l m x d ρ p w b) r (c + 1) (sHopeS α l m x d ρ p w b c st)) ∧ _
    have go : sOkc ρ c = true → ∃ u, fX10_hopesFor_80 RC (fX10_hopesFor_45 RC n) 116 (nI m) (nI Y) x (nI k) (nI p) (nI w) (if b = true then nI 1 else nI 0) (nI c + -nI 1) v = some u ∧ pSM u (zit (sHopeS α l m x d ρ p w b) r (c + 1) (sHopeS α l m x d ρ p w b c st)) ∧ onlyD k v u := by
      intro hok
      obtain ⟨u, hu, uE, uR, u0, uD, u52, u53⟩ := p_mHopStep (Y := Y) (p := p) (w := w) (b := b) (x := x) ha hl (by omega) hm (show c ≤ α 0 1 by omega) ho hE hR h0 RC (fX10_hopesFor_45 RC n)
      have hp' : p + (if c = 0 then 0 else 1) ≤ k + 1 := by split <;> omega
      obtain ⟨q1, q2⟩ := okR_stp (l := l) (x := x) ha ho (by omega) c
      obtain ⟨t, ht, tS, tD⟩ := hRC (k + 1) _ _ (100 * w + c) (b || decide ((sStp α l x c ρ).1 = some m)) st u (by omega) hp' q1 (by rw [q2]; omega) uE uR u0 ⟨u52.trans hS.1, u53.trans hS.2.1, hS.2.2⟩
      have tD' : onlyD k v t := onlyD_tr uD ⟨tD.1, fun a a1 a2 => tD.2 a a1 (by omega)⟩
      have es : sHopeS α l m x d ρ p w b c st = sHope α l m x d (sStp α l x c ρ).2 (p + if c = 0 then 0 else 1) (100 * w + c) (b || decide ((sStp α l x c ρ).1 = some m)) st := if_pos hok
      rw [hu, ht, zbindv_some, es]
      obtain ⟨s, hs, sS, sD⟩ := ih (c + 1) n _ t (by omega) (by omega) (pME_f ha hl hE tD'.1) (MR_fr hR (tD'.2 _ (by omega) (by omega))) (MQ0_f h0 tD'.1) tS
      exact ⟨s, hs, sS, onlyD_tr tD' sD⟩
    rw [fX10_hopesFor_45]
    dsimp only
    rw [rf_116_12, rf_116_51, show (-1 : Int32) = -nI 1 from rfl]
    by_cases c0 : c = 0
    · have ex : nI c + -nI 1 = -nI 1 := by rw [c0]; decide
      have hg := go (by unfold sOkc; rw [decide_eq_true c0]; rfl)
      rw [ex] at hg ⊢
      simp (disch := omega) only [i_1, zix_nI, nI_cl', l120, h120]
      rw [if_neg (by rw [ng_le2 (by omega) (by decide) (by decide)]; exact not_false), if_pos trivial]
      exact hg
    · have ex : nI c + -nI 1 = nI (c - 1) := nI_addg (by omega)
      have hs := hR.2.1 (c - 1) (by omega)
      have b4 := ho.2.2.2.1 (c - 1)
      have ex1 : nI (c - 1) + nI 1 = nI (c + 1) + -nI 1 := by rw [nI_add, nI_addg (by omega), show c - 1 + 1 = c + 1 - 1 by omega]
      rw [ex] at go ⊢
      simp (disch := omega) only [i_0, i_1, nI_add, Nat.zero_add, zix_nI, nI_cl', l120, h120, a0, l0, l577, hs, nI_eq']
      rw [if_neg (fun q => by rw [nI_le' (by omega) (by omega)] at q; omega), if_neg (by rw [ng_eq (by omega) (by decide) (by decide)]; exact not_false)]
      by_cases q : sSt ρ (c - 1) = 0
      · rw [if_pos q]
        exact go (by unfold sOkc; rw [decide_eq_true q]; exact Bool.or_true _)
      · rw [if_neg q]
        have es : sHopeS α l m x d ρ p w b c st = st := if_neg (by unfold sOkc; rw [decide_eq_false c0, decide_eq_false q]; decide)
        rw [es, ← nI_add, ex1]
        exact ih (c + 1) n st v (by omega) (by omega) hE hR h0 hS
theorem p_mHopD {α : sA} {l : sL} (ha : okA α) (hl : okL l) {m Y : Nat} {x : Int32} (hY : Y ≤ 3) (hm : m < 16) : ∀ d D, d < D → pHope α l Y m x d (fX10_hopesForD D) := by
  intro d
  have hM := ha.1.2.1
  have zF := zFU_v
  induction d with
  | zero =>
    intro D hD k ρ p w b st v hk hp ho hy hE hR h0 hS
    obtain ⟨D, rfl⟩ : ∃ k, D = k + 1 := ⟨D - 1, by omega⟩
    obtain rfl : k = Y := by omega
    have fF : onlyD k v (zup (zup v 116 52 (nI p)) 116 53 (nI w)) := ⟨⟨fun a a1 _ _ _ => by rw [p_up_a _ _ _ a1, p_up_a _ _ _ a1], fun j _ _ _ j5 j6 _ _ => by rw [p_up_n _ _ (Or.inr j6), p_up_n _ _ (Or.inr j5)]⟩, fun a a1 a2 => by rw [p_up_a _ _ _ (by omega), p_up_a _ _ _ (by omega)]⟩
    have hset : pSM (zup (zup v 116 52 (nI p)) 116 53 (nI w)) (some (p, w)) := ⟨by rw [p_up_n _ _ (Or.inr (by decide)), p_up_s]; rfl, by rw [p_up_s]; rfl, fun z hz => by cases hz; show p ≤ 3; omega⟩
    rw [fX10_hopesForD]
    unfold fX10_hopesFor
    rw [if_pos rfl, sHope]
    cases b with
    | false => exact ⟨v, by rw [if_neg (show ¬ false = true by decide), if_pos (show nI 0 = 0 from rfl)], by rw [if_neg (show ¬ false = true by decide)]; exact hS, frM_rf v, fun _ _ _ => rfl⟩
    | true =>
      rw [if_pos rfl, if_pos rfl, if_neg (show ¬ nI 1 = 0 by decide), hS.1]
      cases st with
      | none => exact ⟨_, by rw [if_pos (show oI (Option.map Prod.fst (none : Option (Nat × Nat))) = -1 from rfl), zlet_eq, zlet_eq], hset, fF⟩
      | some z =>
        have hz := hS.2.2 z rfl
        show ∃ u, (if nI z.1 = -1 then _ else if nI p < nI z.1 then _ else _) = some u ∧ _ ∧ _
        rw [if_neg (show ¬ nI z.1 = -1 by rw [show (-1 : Int32) = -nI 1 from rfl, ng_eq (by omega) (by decide) (by decide)]; exact not_false)]
        by_cases q : p < z.1
        · rw [if_pos ((nI_ltI (by omega) (by omega)).mpr q)]
          exact ⟨_, by rw [zlet_eq, zlet_eq], by unfold sBst; rw [if_pos (show sLess (some z) p = true from decide_eq_true q)]; exact hset, fF⟩
        · rw [if_neg (fun e => q ((nI_ltI (by omega) (by omega)).mp e))]
          exact ⟨v, rfl, by unfold sBst; rw [if_neg (show ¬ sLess (some z) p = true from fun e => q (of_decide_eq_true e))]; exact hS, frM_rf v, fun _ _ _ => rfl⟩
  | succ d ih =>
    intro D hD k ρ p w b st v hk hp ho hy hE hR h0 hS
    obtain ⟨D, rfl⟩ : ∃ k, D = k + 1 := ⟨D - 1, by omega⟩
    rw [fX10_hopesForD]
    unfold fX10_hopesFor
    rw [if_neg (show ¬ nI k = nI Y by rw [nI_eq' (by omega) (by omega)]; omega)]
    exact p_mHop45 (b := b) ha hl hY hm (by omega) hp ho (by omega) (fX10_hopesForD D) (ih D (by omega)) (α 0 1 + 1) 0 zFU st v (by omega) (by omega) hE hR h0 hS
theorem p_mPraises {v : zV} {α : sA} {l : sL} {ρ : sR} (h : MQ' v α l ρ) (ho : OKs α l ρ) {m Y what : Nat} (hm : m < 16) (hY : Y ≤ 3) (hwh : what < 2) (x : Int32) : ∃ w, (zix (0 : Int32) (zlen (zrf 116 51)) <|
    zbindv (fX10_copies (zrf 116 35) (zrf (zrf 116 51) ((0 : Int32)).toNatClampNeg) v) fun v_3 =>
    zlet (zup v_3 116 52 (-1 : Int32)) fun v_4 =>
    zlet (zup v_4 116 53 (-1 : Int32)) fun v_5 =>
    zbindv (fX10_hopesForD 20 116 (nI m) (nI Y) x (0 : Int32) (0 : Int32) (0 : Int32) (0 : Int32) v_5) fun v_6 =>
    if nI what = (0 : Int32) then some (v_6 116 52, v_6) else some (v_6 116 53, v_6)) = some (sPrAns (sWays α l m x Y ρ 0 0 none) what, w) ∧ frM v w := by
  obtain ⟨ha, hl, hr, hy⟩ := ho
  obtain ⟨w, hw, hcp, hon⟩ := p_mCopies (deep_M 0 (by decide)) m567 (by decide) v
  have f1 : frM v w := frM_c (by decide) (by decide) hon
  have f2 : frM v (zup (zup w 116 52 (-nI 1)) 116 53 (-nI 1)) := frM_tr f1 ⟨fun a a1 _ _ _ => by rw [p_up_a _ _ _ a1, p_up_a _ _ _ a1], fun j _ _ _ j5 j6 _ _ => by rw [p_up_n _ _ (Or.inr j6), p_up_n _ _ (Or.inr j5)]⟩
  have hS : pSM (zup (zup w 116 52 (-nI 1)) 116 53 (-nI 1)) none := ⟨by rw [p_up_n _ _ (Or.inr (by decide)), p_up_s]; rfl, by rw [p_up_s]; rfl, fun z hz => by cases hz⟩
  obtain ⟨u, hu, uS, uD⟩ := p_mHopD (x := x) ha hl hY hm Y 20 (by omega) 0 ρ 0 0 false none _ (by omega) (Nat.le_refl _) hr (by omega) (pME_f ha hl h.1 f2) (MR_fr (MR_cp h.2.1 hcp) (by rw [p_up_a _ _ _ (by decide), p_up_a _ _ _ (by decide)])) (MQ0_f h.2.2 f2) hS
  refine ⟨u, ?_, frM_tr f2 uD.1⟩
  have l577 : zlen 577 = 4 := by decide +kernel
  rw [if_neg (show ¬ false = true by decide)] at hu
  rw [rf_116_51, rf_116_35, show (-1 : Int32) = -nI 1 from rfl]
  simp (disch := omega) only [i_0, zlet_eq, zix_nI, nI_cl', rfa_577, l577]
  rw [hw, zbindv_some, hu, zbindv_some, uS.1, uS.2.1, sWays_eq]
  generalize sWays α l m x Y ρ 0 0 none = st
  by_cases q : what = 0
  · rw [q, if_pos rfl]
    cases st with
    | none => rfl
    | some z => rfl
  · rw [if_neg (show ¬ nI what = nI 0 by rw [nI_eq' (by omega) (by decide)]; exact q)]
    cases st with
    | none => rfl
    | some z =>
      show some (nI z.2, u) = some (if what = 0 then nI z.1 else nI z.2, u)
      rw [if_neg q]
end
