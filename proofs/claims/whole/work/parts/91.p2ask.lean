section
/-! SIDES, BELIEVES: with what is refused -/
theorem zbx_0 {β : Type} (a : Int32) (w : zV) (k : Int32 → zV → Option (Nat × β × zV)) (d : β) : zbindx (some (0, a, w)) k d = k a w := Eq.trans rfl rfl
theorem zbx_1 {β : Type} (a : Int32) (w : zV) (k : Int32 → zV → Option (Nat × β × zV)) (d : β) : zbindx (some (1, a, w)) k d = some (1, d, w) := Eq.trans rfl rfl
theorem zbx_2 {β : Type} (a : Int32) (w : zV) (k : Int32 → zV → Option (Nat × β × zV)) (d : β) : zbindx (some (2, a, w)) k d = some (2, d, w) := Eq.trans rfl rfl
/-- the reference refuses: z 0 or 1 -/
def rfM (y z : Nat) (v w : zV) : Prop := w 116 0 = nI y ∧ (∀ a, a ≠ 116 → a ≠ 118 → w a = v a) ∧ (∀ k, k ≠ 0 → w 116 k = v 116 k) ∧ w 118 z = v 118 z + nI 1 ∧ ∀ k, k ≠ z → w 118 k = v 118 k
theorem rfM_up (v : zV) (y z : Nat) : rfM y z v (zup (zup (zup v 116 0 (nI 0)) 116 0 (nI y)) 118 z ((zup v 116 0 (nI 0)) 118 z + nI 1)) := by
  refine ⟨by rw [p_up_a _ _ _ (by decide), p_up_s], fun a a1 a2 => by rw [p_up_a _ _ _ a2, p_up_a _ _ _ a1, p_up_a _ _ _ a1], fun k hk => by rw [p_up_a _ _ _ (by decide), p_up_n _ _ (Or.inr hk), p_up_n _ _ (Or.inr hk)], by rw [p_up_s, p_up_a _ _ _ (by decide)], fun k hk => by rw [p_up_n _ _ (Or.inr hk), p_up_a _ _ _ (by decide), p_up_a _ _ _ (by decide)]⟩
theorem p_sidesY {v : zV} {α : sA} (h : pCA 3 v α) (ho : okA α) {q : Nat} (hq : q < α 0 0) : fX9_sides 0 (nI q) v = some (0, nI (α 1 q), v) := by
  have hQ := ho.1.1
  have l4 : zlen 4 = 6 := by decide +kernel
  have r37 : zrf 3 7 = 4 := by decide +kernel
  unfold fX9_sides
  rw [(p_needQ h.1.1 hQ).1 ⟨q, hq, rfl⟩, zbx_0, rf_0_1, r37, p_get (by rw [l4]; omega), zbind_some, show v 4 q = nI (α 1 q) from h.2.1 q hq]
theorem p_sidesN {v : zV} {α : sA} (h : pCA 3 v α) (ho : okA α) {x : Int32} (hx : ¬ inN x (α 0 0)) : fX9_sides 0 x v = some (1, 0, zup v 0 15 (v 0 15 + 1)) := by
  unfold fX9_sides
  rw [(p_needQ h.1.1 ho.1.1).2 hx, zbx_1]
theorem p_mSidesY {v : zV} {α : sA} (h : pMA v α) (ho : okA α) {q : Nat} (hq : q < α 0 0) : fX10_sides 116 (nI q) v = some (nI (α 1 q), zup v 116 0 (nI 0)) := by
  have hQ := ho.1.1
  have hE : pMA (zup v 116 0 (nI 0)) α := MA_fr h ho (fun a a1 a2 => p_up_a _ _ _ (by omega))
  have h0 : (zup v 116 0 (nI 0)) 116 0 = nI 0 := p_up_s _ _ _ _
  have l122 : zlen 122 = 6 := by decide +kernel
  have r14 : zrf 116 14 = 122 := by decide +kernel
  unfold fX10_sides
  rw [show (0 : Int32) = nI 0 from rfl, show (1 : Int32) = nI 1 from rfl, zlet_eq]
  generalize zup v 116 0 (nI 0) = u at hE h0
  rw [(p_mIsQ (hE.1 0 (by decide)) hQ).1 ⟨q, hq, rfl⟩, zbind_some, if_neg (show ¬ nI 1 = nI 0 by decide), p_bad0 h0, zbind_some, if_pos rfl, r14, zix_nI (by omega) (by omega), nI_cl' (by omega), hE.2.1 q hq]
theorem p_mSidesN {v : zV} {α : sA} (h : pMA v α) (ho : okA α) {x : Int32} (hx : ¬ inN x (α 0 0)) : ∃ w, fX10_sides 116 x v = some (nI 0, w) ∧ rfM 1 0 v w := by
  have hE : pMA (zup v 116 0 (nI 0)) α := MA_fr h ho (fun a a1 a2 => p_up_a _ _ _ (by omega))
  refine ⟨_, ?_, rfM_up v 1 0⟩
  unfold fX10_sides
  rw [show (0 : Int32) = nI 0 from rfl, show (1 : Int32) = nI 1 from rfl, zlet_eq, (p_mIsQ (hE.1 0 (by decide)) ho.1.1).2 hx, zbind_some, if_pos rfl, p_bad1 (p_up_s _ _ _ _) (by decide) (by decide) (by decide), zbind_some, if_neg (show ¬ nI 1 = nI 0 by decide)]
theorem p_believesY {v : zV} {α : sA} (h : pCA 3 v α) (ho : okA α) {m q : Nat} (hm : m < α 0 1) (hq : q < α 0 0) : fX9_believes 0 (nI m) (nI q) v = some (0, nI (α (10 + m) q), v) := by
  unfold fX9_believes
  rw [(p_needMan h.1.2.1 ho.1.2.1).1 ⟨m, hm, rfl⟩, zbx_0, (p_needQ h.1.1 ho.1.1).1 ⟨q, hq, rfl⟩, zbx_0, rf_0_1, p_sideOf h ho hm hq, zbind_some]
theorem p_believesN {v : zV} {α : sA} (h : pCA 3 v α) (ho : okA α) {x y : Int32} (hx : ¬ (inN x (α 0 1) ∧ inN y (α 0 0))) : fX9_believes 0 x y v = some (1, 0, zup v 0 15 (v 0 15 + 1)) := by
  unfold fX9_believes
  by_cases q : inN x (α 0 1)
  · rw [(p_needMan h.1.2.1 ho.1.2.1).1 q, zbx_0, (p_needQ h.1.1 ho.1.1).2 (fun z => hx ⟨q, z⟩), zbx_1]
  · rw [(p_needMan h.1.2.1 ho.1.2.1).2 q, zbx_1]
theorem p_mBelievesY {v : zV} {α : sA} (h : pMA v α) (ho : okA α) {m q : Nat} (hm : m < α 0 1) (hq : q < α 0 0) : fX10_believes 116 (nI m) (nI q) v = some (nI (α (10 + m) q), zup v 116 0 (nI 0)) := by
  have hQ := ho.1.1
  have hM := ho.1.2.1
  have hE : pMA (zup v 116 0 (nI 0)) α := MA_fr h ho (fun a a1 a2 => p_up_a _ _ _ (by omega))
  have h0 : (zup v 116 0 (nI 0)) 116 0 = nI 0 := p_up_s _ _ _ _
  have l144 : zlen 144 = 16 := by decide +kernel
  have r20 : zrf 116 20 = 144 := by decide +kernel
  have a0 := rfa_144 m (by omega)
  have l0 := lna_144 m (by omega)
  unfold fX10_believes fX10_believes_27
  rw [show (0 : Int32) = nI 0 from rfl, show (1 : Int32) = nI 1 from rfl, zlet_eq]
  generalize zup v 116 0 (nI 0) = u at hE h0
  rw [(p_mIsMan (hE.1 1 (by decide)) hM).1 ⟨m, hm, rfl⟩, zbind_some, if_neg (show ¬ nI 1 = nI 0 by decide), (p_mIsQ (hE.1 0 (by decide)) hQ).1 ⟨q, hq, rfl⟩, zbind_some, if_neg (show ¬ nI 1 = nI 0 by decide), p_bad0 h0, zbind_some, if_pos rfl, r20, zix_nI (by omega) (by omega), nI_cl' (by omega), nI_cl' (by omega), a0, zix_nI (by omega) (by omega), hE.2.2.2.2.1 m hm q hq]
theorem p_mBelievesN {v : zV} {α : sA} (h : pMA v α) (ho : okA α) {x y : Int32} (hx : ¬ (inN x (α 0 1) ∧ inN y (α 0 0))) : ∃ w, fX10_believes 116 x y v = some (nI 0, w) ∧ rfM 1 0 v w := by
  have hE : pMA (zup v 116 0 (nI 0)) α := MA_fr h ho (fun a a1 a2 => p_up_a _ _ _ (by omega))
  refine ⟨_, ?_, rfM_up v 1 0⟩
  unfold fX10_believes fX10_believes_27
  rw [show (0 : Int32) = nI 0 from rfl, show (1 : Int32) = nI 1 from rfl, zlet_eq]
  by_cases q : inN x (α 0 1)
  · rw [(p_mIsMan (hE.1 1 (by decide)) ho.1.2.1).1 q, zbind_some, if_neg (show ¬ nI 1 = nI 0 by decide), (p_mIsQ (hE.1 0 (by decide)) ho.1.1).2 (fun z => hx ⟨q, z⟩), zbind_some, if_pos rfl, p_bad1 (p_up_s _ _ _ _) (by decide) (by decide) (by decide), zbind_some, if_neg (show ¬ nI 1 = nI 0 by decide)]
  · rw [(p_mIsMan (hE.1 1 (by decide)) ho.1.2.1).2 q, zbind_some, if_pos rfl, p_bad1 (p_up_s _ _ _ _) (by decide) (by decide) (by decide), zbind_some, if_neg (show ¬ nI 1 = nI 0 by decide)]
theorem p_differsY {v : zV} {α : sA} (h : pCA 3 v α) (ho : okA α) {m q : Nat} (hm : m < α 0 1) (hq : q < α 0 1) : fX9_differs 0 (nI m) (nI q) v = some (0, nI (sDf α m q), v) := by
  unfold fX9_differs
  rw [(p_needMan h.1.2.1 ho.1.2.1).1 ⟨m, hm, rfl⟩, zbx_0, (p_needMan h.1.2.1 ho.1.2.1).1 ⟨q, hq, rfl⟩, zbx_0, rf_0_1, p_differing h ho hm hq, zbind_some]
theorem p_differsN {v : zV} {α : sA} (h : pCA 3 v α) (ho : okA α) {x y : Int32} (hx : ¬ (inN x (α 0 1) ∧ inN y (α 0 1))) : fX9_differs 0 x y v = some (1, 0, zup v 0 15 (v 0 15 + 1)) := by
  unfold fX9_differs
  by_cases q : inN x (α 0 1)
  · rw [(p_needMan h.1.2.1 ho.1.2.1).1 q, zbx_0, (p_needMan h.1.2.1 ho.1.2.1).2 (fun z => hx ⟨q, z⟩), zbx_1]
  · rw [(p_needMan h.1.2.1 ho.1.2.1).2 q, zbx_1]
theorem p_mDiffersY {v : zV} {α : sA} (h : pMA v α) (ho : okA α) {m q : Nat} (hm : m < α 0 1) (hq : q < α 0 1) : fX10_differs 116 (nI m) (nI q) v = some (nI (sDf α m q), zup v 116 0 (nI 0)) := by
  have hM := ho.1.2.1
  have hE : pMA (zup v 116 0 (nI 0)) α := MA_fr h ho (fun a a1 a2 => p_up_a _ _ _ (by omega))
  have h0 : (zup v 116 0 (nI 0)) 116 0 = nI 0 := p_up_s _ _ _ _
  unfold fX10_differs fX10_differs_27
  rw [show (0 : Int32) = nI 0 from rfl, show (1 : Int32) = nI 1 from rfl, zlet_eq]
  generalize zup v 116 0 (nI 0) = u at hE h0
  rw [(p_mIsMan (hE.1 1 (by decide)) hM).1 ⟨m, hm, rfl⟩, zbind_some, if_neg (show ¬ nI 1 = nI 0 by decide), (p_mIsMan (hE.1 1 (by decide)) hM).1 ⟨q, hq, rfl⟩, zbind_some, if_neg (show ¬ nI 1 = nI 0 by decide), p_bad0 h0, zbind_some, if_pos rfl, p_mDiffers hE ho hm hq, zbind_some]
theorem p_mDiffersN {v : zV} {α : sA} (h : pMA v α) (ho : okA α) {x y : Int32} (hx : ¬ (inN x (α 0 1) ∧ inN y (α 0 1))) : ∃ w, fX10_differs 116 x y v = some (nI 0, w) ∧ rfM 1 0 v w := by
  have hE : pMA (zup v 116 0 (nI 0)) α := MA_fr h ho (fun a a1 a2 => p_up_a _ _ _ (by omega))
  refine ⟨_, ?_, rfM_up v 1 0⟩
  unfold fX10_differs fX10_differs_27
  rw [show (0 : Int32) = nI 0 from rfl, show (1 : Int32) = nI 1 from rfl, zlet_eq]
  by_cases q : inN x (α 0 1)
  · rw [(p_mIsMan (hE.1 1 (by decide)) ho.1.2.1).1 q, zbind_some, if_neg (show ¬ nI 1 = nI 0 by decide), (p_mIsMan (hE.1 1 (by decide)) ho.1.2.1).2 (fun z => hx ⟨q, z⟩), zbind_some, if_pos rfl, p_bad1 (p_up_s _ _ _ _) (by decide) (by decide) (by decide), zbind_some, if_neg (show ¬ nI 1 = nI 0 by decide)]
  · rw [(p_mIsMan (hE.1 1 (by decide)) ho.1.2.1).2 q, zbind_some, if_pos rfl, p_bad1 (p_up_s _ _ _ _) (by decide) (by decide) (by decide), zbind_some, if_neg (show ¬ nI 1 = nI 0 by decide)]
end
