section
/-! PRAISES: the reference -/
theorem deep_M : ∀ k, k < 4 → rowM (578 + k) := by
  intro k hk
  have h : ∀ k, k < 4 → 578 + k ∈ [562, 563, 564, 567, 568, 569, 570, 571, 578, 579, 580, 581] := by decide
  exact rowM_all _ (h k hk)
/-- what a level of the search keeps -/
def onlyD (k : Nat) (v u : zV) : Prop := frM v u ∧ ∀ a, 578 ≤ a → a ≤ 578 + k → u a = v a
theorem onlyD_tr {k : Nat} {v w u : zV} (h1 : onlyD k v w) (h2 : onlyD k w u) : onlyD k v u := ⟨frM_tr h1.1 h2.1, fun a a1 a2 => (h2.2 a a1 a2).trans (h1.2 a a1 a2)⟩
def pSM (v : zV) (st : Option (Nat × Nat)) : Prop := v 116 52 = oI (st.map Prod.fst) ∧ v 116 53 = oI (st.map Prod.snd) ∧ ∀ z, st = some z → z.1 ≤ 3
theorem p_mHopStep {α : sA} {l : sL} (ha : okA α) (hl : okL l) {m Y k c p w : Nat} {b : Bool} {x : Int32} (hk : k < 3) (hm : m < 16) (hc : c ≤ α 0 1) {ρ : sR} (ho : okR α ρ) {v : zV} (hE : pME v α l) (hR : MR (578 + k) v ρ) (h0 : MQ0 v) (RC : Nat → Int32 → Int32 → Int32 → Int32 → Int32 → Int32 → Int32 → zV → Option zV) (K : Nat → Int32 → Int32 → Int32 → Int32 → Int32 → Int32 → Int32 → Int32 → zV → Option zV) :
    ∃ u, fX10_hopesFor_80 RC K 116 (nI m) (nI Y) x (nI k) (nI p) (nI w) (if b = true then nI 1 else nI 0) (nI c + -nI 1) v = (zbindv (RC 116 (nI m) (nI Y) x (nI (k + 1)) (nI (p + if c = 0 then 0 else 1)) (nI (100 * w + c)) (if (b || decide ((sStp α l x c ρ).1 = some m)) = true then nI 1 else nI 0) u) fun v_1 => K 116 (nI m) (nI Y) x (nI k) (nI p) (nI w) (if b = true then nI 1 else nI 0) (nI (c + 1) + -nI 1) v_1) ∧
      pME u α l ∧ MR (578 + (k + 1)) u (sStp α l x c ρ).2 ∧ MQ0 u ∧ onlyD k v u ∧ u 116 52 = v 116 52 ∧ u 116 53 = v 116 53 := by
  have hM := ha.1.2.1
  have r1 := deep_M (k + 1) (by omega)
  obtain ⟨w1, hw1, hcp, hon1⟩ := p_mCopies r1 (deep_M k (by omega)) (by omega) v
  have hR1 : MR (578 + (k + 1)) w1 ρ := MR_cp hR hcp
  have h99 : w1 (578 + k) 99 = nI (sSc ρ 0) := by rw [hon1 _ (by omega)]; exact hR.1.2.2.1
  have f1 : frM v w1 := frM_c (by omega) (by omega) hon1
  have hcx : nI c + -nI 1 + nI 1 = nI c := by rw [Int32.add_assoc, Int32.add_left_neg, Int32.add_zero]
  have hcx2 : nI (c + 1) + -nI 1 = nI c := by rw [nI_addg (by omega), Nat.add_sub_cancel]
  have hcm : ∀ j, j < 16 → ((nI c + -nI 1 = nI j) = (c = j + 1)) := fun j hj => by
    by_cases q : c = 0
    · subst q
      rw [show nI 0 + -nI 1 = -nI 1 by decide, ng_eq2 (by omega) (by decide) (by decide)]
      exact propext ⟨fun z => z.elim, fun z => by omega⟩
    · rw [nI_addg (by omega), nI_eq' (by omega) (by omega)]
      exact propext ⟨fun z => by omega, fun z => by omega⟩
  have hc0 : (nI c + -nI 1 = -nI 1) = (c = 0) := by
    by_cases q : c = 0
    · subst q
      exact propext ⟨fun _ => rfl, fun _ => by decide⟩
    · rw [nI_addg (by omega), ng_eq (by omega) (by decide) (by decide)]
      exact propext ⟨fun z => z.elim, fun z => absurd z q⟩
  generalize hX : nI c + -nI 1 = X at hcx hcm hc0
  have f5 : ∀ a, a ≠ 573 → a ≠ 116 → (zup (zup (zup (zup w1 573 0 (nI (sSc ρ 0))) 573 1 X) 573 2 x) 116 44 (nI 1)) a = w1 a := fun a a1 a2 => by
    rw [p_up_a _ _ _ a2, p_up_a _ _ _ a1, p_up_a _ _ _ a1, p_up_a _ _ _ a1]
  have g5 : ∀ j, j ≠ 44 → (zup (zup (zup (zup w1 573 0 (nI (sSc ρ 0))) 573 1 X) 573 2 x) 116 44 (nI 1)) 116 j = w1 116 j := fun j a1 => by
    rw [p_up_n _ _ (Or.inr a1), p_up_a _ _ _ (by decide), p_up_a _ _ _ (by decide), p_up_a _ _ _ (by decide)]
  have t44 : (zup (zup (zup (zup w1 573 0 (nI (sSc ρ 0))) 573 1 X) 573 2 x) 116 44 (nI 1)) 116 44 = nI 1 := p_up_s _ _ _ _
  have t0 : (zup (zup (zup (zup w1 573 0 (nI (sSc ρ 0))) 573 1 X) 573 2 x) 116 44 (nI 1)) 573 0 = nI (sSc ρ 0) := by
    rw [p_up_a _ _ _ (by decide), p_up_n _ _ (Or.inr (by decide)), p_up_n _ _ (Or.inr (by decide)), p_up_s]
  have t1 : (zup (zup (zup (zup w1 573 0 (nI (sSc ρ 0))) 573 1 X) 573 2 x) 116 44 (nI 1)) 573 1 = X := by
    rw [p_up_a _ _ _ (by decide), p_up_n _ _ (Or.inr (by decide)), p_up_s]
  have t2 : (zup (zup (zup (zup w1 573 0 (nI (sSc ρ 0))) 573 1 X) 573 2 x) 116 44 (nI 1)) 573 2 = x := by
    rw [p_up_a _ _ _ (by decide), p_up_s]
  have hstep : fX10_hopesFor_80 RC K 116 (nI m) (nI Y) x (nI k) (nI p) (nI w) (if b = true then nI 1 else nI 0) X v = (zbindv (fX10_goes 116 (578 + (k + 1)) (zup (zup (zup (zup w1 573 0 (nI (sSc ρ 0))) 573 1 X) 573 2 x) 116 44 (nI 1))) fun v_6 =>
    if X = -nI 1 then
      fX10_hopesFor_180 RC K 116 (nI m) (nI Y) x (nI k) (nI p) (nI w) (if b = true then nI 1 else nI 0) X 116 (nI m) (nI Y) x (nI (k + 1)) (nI p) (nI 0) (zup v_6 116 44 (nI 0))
    else
      fX10_hopesFor_180 RC K 116 (nI m) (nI Y) x (nI k) (nI p) (nI w) (if b = true then nI 1 else nI 0) X 116 (nI m) (nI Y) x (nI (k + 1)) (nI p) (nI 1) (zup v_6 116 44 (nI 0))) := by
    have a0 := rfa_577 k (by omega)
    have a1 := rfa_577 (k + 1) (by omega)
    have b0 := rfa_572 0 (by decide)
    have l0 := lna_577 k (by omega)
    have l1 := lna_572 0 (by decide)
    have l2 : zlen 572 = 3 := by decide +kernel
    have l3 : zlen 577 = 4 := by decide +kernel
    unfold fX10_hopesFor_80
    rw [rf_116_51, rf_116_43, show (-1 : Int32) = -nI 1 from rfl]
    simp (disch := omega) only [i_0, i_1, i_2, i_99, nI_add, zlet_eq, zix_nI, nI_cl', a0, a1, b0, l0, l1, l2, l3, Nat.add_zero]
    rw [hw1, zbindv_some, h99]
  generalize zup (zup (zup (zup w1 573 0 (nI (sSc ρ 0))) 573 1 X) 573 2 x) 116 44 (nI 1) = t at f5 g5 t44 t0 t1 t2 hstep
  have hHP : HP t (hPr (sSc ρ 0) c x) := by
    refine ⟨1, by decide, t44, fun y j hy hj => ?_⟩
    show 0 + (if t 573 0 = nI y ∧ t 573 1 = nI j then t 573 2 else 0) = _
    have hys := ho.2.2.2.2.2.1
    rw [t0, t1, t2, Int32.zero_add]
    unfold hPr
    by_cases q1 : y = sSc ρ 0 ∧ c = j + 1
    · rw [if_pos q1, if_pos ⟨by rw [q1.1], (hcm j hj).mpr q1.2⟩]
    · rw [if_neg q1, if_neg (fun z => q1 ⟨((nI_eq' (by omega) (by omega)).mp z.1).symm, (hcm j hj).mp z.2⟩)]
  have ft : onlyM 573 w1 t ∨ True := Or.inr trivial
  have hEt : pME t α l := ⟨MA_fr hE.1 ha (fun a a1 a2 => (f5 a (by omega) (by omega)).trans (f1.1 a (by omega) (by omega) (by omega) (by omega))), ML_fr hE.2 hl ((g5 26 (by decide)).trans (f1.2 26 (by decide) (by decide) (by decide) (by decide) (by decide) (by decide) (by decide))) (fun a a1 a2 => (f5 a (by omega) (by omega)).trans (f1.1 a (by omega) (by omega) (by omega) (by omega)))⟩
  have e116 : w1 116 = v 116 := hon1 116 (by omega)
  obtain ⟨u, hu, hur, hu50, huon⟩ := p_mGoes ha hl hEt hHP (mo := none) (show t 116 46 = -nI 1 by rw [g5 46 (by decide), e116]; exact h0.2.1) (show t 116 47 = 0 by rw [g5 47 (by decide), e116]; exact h0.2.2) r1 (MR_fr hR1 (f5 _ (by omega) (by omega))) ho
  rw [sStp_M] at hur hu50
  have k116 : ∀ j, j ≠ 44 → j ≠ 48 → j ≠ 50 → (zup u 116 44 (nI 0)) 116 j = v 116 j := fun j a1 a2 a3 => by
    rw [p_up_n _ _ (Or.inr a1), huon.2 j a2 a3, g5 j a1, e116]
  have k44 : (zup u 116 44 (nI 0)) 116 44 = v 116 44 := by rw [p_up_s, h0.1]; rfl
  have kr : ∀ a, a ≠ 116 → a ≠ 573 → a ≠ 565 → a ≠ 566 → a ≠ 576 → a ≠ 578 + (k + 1) → (zup u 116 44 (nI 0)) a = v a := fun a a1 a2 a3 a4 a5 a6 => by
    rw [p_up_a _ _ _ a1, huon.1 a a6 a3 a4 a5 a1, f5 a a2 a1, hon1 a a6]
  have fF : frM v (zup u 116 44 (nI 0)) := ⟨fun a a1 a2 a3 a4 => kr a a1 (by omega) a2 a3 (by omega) (by omega), fun j _ j3 j4 _ _ _ _ => by
    by_cases q : j = 44
    · rw [q]; exact k44
    · exact k116 j q j3 j4⟩
  refine ⟨zup u 116 44 (nI 0), ?_, pME_f ha hl hE fF, MR_fr hur (p_up_a _ _ _ (by omega)), MQ0_f h0 fF, ⟨fF, fun a a1 a2 => kr a (by omega) (by omega) (by omega) (by omega) (by omega) (by omega)⟩, k116 52 (by decide) (by decide) (by decide), k116 53 (by decide) (by decide) (by decide)⟩
  have hlt : ∀ q, (sStp α l x c ρ).1 = some q → q < 2 ^ 31 := fun q hq => by
    have := (sChoose_ok (α := α) (ρ := sTell α (sAddO x c ρ)) (sc := sScore α l (sTell α (sAddO x c ρ))) hq).1
    omega
  have eq1 : (oI (sStp α l x c ρ).1 = nI m) = ((sStp α l x c ρ).1 = some m) := by
    rw [← oI_some, oI_inj hlt (fun q hq => by cases hq; omega)]
  have u50 : (zup u 116 44 (nI 0)) 116 50 = oI (sStp α l x c ρ).1 := by rw [p_up_n _ _ (Or.inr (by decide))]; exact hu50
  have h180 : ∀ s6 : Nat, fX10_hopesFor_180 RC K 116 (nI m) (nI Y) x (nI k) (nI p) (nI w) (if b = true then nI 1 else nI 0) X 116 (nI m) (nI Y) x (nI (k + 1)) (nI p) (nI s6) (zup u 116 44 (nI 0)) = (zbindv (RC 116 (nI m) (nI Y) x (nI (k + 1)) (nI (p + s6)) (nI (100 * w + c)) (if (b || decide ((sStp α l x c ρ).1 = some m)) = true then nI 1 else nI 0) (zup u 116 44 (nI 0))) fun v_1 => K 116 (nI m) (nI Y) x (nI k) (nI p) (nI w) (if b = true then nI 1 else nI 0) (nI (c + 1) + -nI 1) v_1) := by
    intro s6
    have ew : nI 100 * nI w + X + nI 1 = nI (100 * w + c) := by rw [Int32.add_assoc, hcx, pk_mul, nI_add]
    unfold fX10_hopesFor_180
    rw [i_100, i_0, i_1, ew, hcx, nI_add, u50, hcx2]
    cases b with
    | true =>
      rw [if_pos rfl, if_neg (show ¬ nI 1 = nI 0 by decide), Bool.true_or, if_pos rfl]
    | false =>
      rw [if_neg (show ¬ false = true by decide), if_pos rfl, Bool.false_or]
      by_cases q : (sStp α l x c ρ).1 = some m
      · rw [if_pos (eq1 ▸ q), decide_eq_true q, if_pos rfl]
      · rw [if_neg (by rw [eq1]; exact q), decide_eq_false q, if_neg (show ¬ false = true by decide)]
  rw [hstep, hu, zbindv_some]
  by_cases q : c = 0
  · rw [if_pos (hc0 ▸ q), if_pos q]; exact h180 0
  · rw [if_neg (by rw [hc0]; exact q), if_neg q]; exact h180 1
end
