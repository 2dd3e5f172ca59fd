/-! ACADEMY: the reference's clauses, one behind another -/
section
def mK (k : Nat) : Nat := if k = 2 then 3 else if k = 3 then 2 else k
def fr9 (v w : zV) : Prop := (∀ a, a ≠ 116 ∧ a ≠ 119 ∧ a ≠ 121 ∧ a ≠ 123 ∧ a ≠ 125 ∧ (a < 128 ∨ 143 < a) ∧ (a < 162 ∨ 173 < a) ∧ (a < 188 ∨ 199 < a) → w a = v a) ∧ ∀ k, k ≠ 4 → k ≠ 5 → k ≠ 6 → k ≠ 7 → k ≠ 25 → w 116 k = v 116 k
theorem fr9_tr {v w u : zV} (h1 : fr9 v w) (h2 : fr9 w u) : fr9 v u := ⟨fun a g => (h2.1 a g).trans (h1.1 a g), fun k g1 g2 g3 g4 g5 => (h2.2 k g1 g2 g3 g4 g5).trans (h1.2 k g1 g2 g3 g4 g5)⟩
theorem fr9_2 {v w : zV} (h : fr2 v w) : fr9 v w := ⟨fun a g => h.1 a g.1, fun k g1 g2 g3 _ _ => h.2 k g1 g2 g3⟩
theorem fr9_8 {v w : zV} (h : fr8 v w) : fr9 v w := ⟨h.1, fun k g1 g2 g3 _ g5 => h.2 k g1 g2 g3 g5⟩
def kM (o : Option Nat) : Int32 := match o with
  | none => -1
  | some k => nI (mK k)
theorem p_kindM {L : List Nat} {τ : rdE} {v : zV} (h : rdM L τ v) (hx : exM τ v) : ∃ w, fX10_kindHere 116 v = some (kM (tKd L τ).1, w) ∧ rdM L τ w ∧ exM τ w ∧ fr2 v w := by
  have one : ∀ i j, i < 16 → j < 16 → (tW i).length ≠ (tW j).length → (tTk L (tW i) τ).1 = true → ¬ (tTk L (tW j) τ).1 = true := by
    intro i j _ _ hl h1 h2
    obtain ⟨p, e, i1, -⟩ := tTk_ok h1
    obtain ⟨p', e', i2, -⟩ := tTk_ok h2
    rw [e] at e'
    cases e'
    exact hl (tIs_one i1 i2)
  unfold fX10_kindHere
  obtain ⟨u0, hu0, R0, X0, f0⟩ := p_isWord h (wl_at 0 (by decide)).1 (wl_at 0 (by decide)).2 w_0
  rw [hu0, zbind_some]
  by_cases g0 : tWd L (tW 0) τ = true
  · have e : tKd L τ = (some 0, (tTk L (tW 0) τ).2) := tKd_at (k := 0) (by decide) (fun j hj => absurd hj (Nat.not_lt_zero j)) (by rw [tTk_1]; exact g0)
    rw [if_pos g0, if_neg (show ¬ (1 : Int32) = 0 by decide), e]
    exact ⟨u0, rfl, R0, X0, f0⟩
  rw [if_neg g0, if_pos rfl]
  obtain ⟨u1, hu1, R1, X1, f1⟩ := p_isWord R0 (wl_at 1 (by decide)).1 (wl_at 1 (by decide)).2 w_1
  rw [hu1, zbind_some]
  by_cases g1 : tWd L (tW 1) τ = true
  · have e : tKd L τ = (some 1, (tTk L (tW 1) τ).2) := tKd_at (k := 1) (by decide) (fun j hj => by
        obtain rfl : j = 0 := by omega
        exact (by rw [tTk_1]; exact g0)) (by rw [tTk_1]; exact g1)
    rw [if_pos g1, if_neg (show ¬ (1 : Int32) = 0 by decide), e]
    exact ⟨u1, rfl, R1, X1, fr2_tr (f0) f1⟩
  rw [if_neg g1, if_pos rfl]
  obtain ⟨u3, hu3, R3, X3, f3⟩ := p_isWord R1 (wl_at 3 (by decide)).1 (wl_at 3 (by decide)).2 w_3
  rw [hu3, zbind_some]
  by_cases g3 : tWd L (tW 3) τ = true
  · have e : tKd L τ = (some 3, (tTk L (tW 3) τ).2) := tKd_at (k := 3) (by decide) (fun j hj => by
        have : j = 0 ∨ j = 1 ∨ j = 2 := by omega
        rcases this with rfl | rfl | rfl
        · exact (by rw [tTk_1]; exact g0)
        · exact (by rw [tTk_1]; exact g1)
        · exact (one 3 2 (by decide) (by decide) (by decide +kernel) (by rw [tTk_1]; exact g3))) (by rw [tTk_1]; exact g3)
    rw [if_pos g3, if_neg (show ¬ (1 : Int32) = 0 by decide), e]
    exact ⟨u3, rfl, R3, X3, fr2_tr (fr2_tr (f0) f1) f3⟩
  rw [if_neg g3, if_pos rfl]
  obtain ⟨u2, hu2, R2, X2, f2⟩ := p_isWord R3 (wl_at 2 (by decide)).1 (wl_at 2 (by decide)).2 w_2
  rw [hu2, zbind_some]
  by_cases g2 : tWd L (tW 2) τ = true
  · have e : tKd L τ = (some 2, (tTk L (tW 2) τ).2) := tKd_at (k := 2) (by decide) (fun j hj => by
        have : j = 0 ∨ j = 1 := by omega
        rcases this with rfl | rfl
        · exact (by rw [tTk_1]; exact g0)
        · exact (by rw [tTk_1]; exact g1)) (by rw [tTk_1]; exact g2)
    rw [if_pos g2, if_neg (show ¬ (1 : Int32) = 0 by decide), e]
    exact ⟨u2, rfl, R2, X2, fr2_tr (fr2_tr (fr2_tr (f0) f1) f3) f2⟩
  rw [if_neg g2, if_pos rfl]
  obtain ⟨u4, hu4, R4, X4, f4⟩ := p_isWord R2 (wl_at 4 (by decide)).1 (wl_at 4 (by decide)).2 w_4
  rw [hu4, zbind_some]
  by_cases g4 : tWd L (tW 4) τ = true
  · have e : tKd L τ = (some 4, (tTk L (tW 4) τ).2) := tKd_at (k := 4) (by decide) (fun j hj => by
        have : j = 0 ∨ j = 1 ∨ j = 2 ∨ j = 3 := by omega
        rcases this with rfl | rfl | rfl | rfl
        · exact (by rw [tTk_1]; exact g0)
        · exact (by rw [tTk_1]; exact g1)
        · exact (by rw [tTk_1]; exact g2)
        · exact (by rw [tTk_1]; exact g3)) (by rw [tTk_1]; exact g4)
    rw [if_pos g4, if_neg (show ¬ (1 : Int32) = 0 by decide), e]
    exact ⟨u4, rfl, R4, X4, fr2_tr (fr2_tr (fr2_tr (fr2_tr (f0) f1) f3) f2) f4⟩
  rw [if_neg g4, if_pos rfl]
  obtain ⟨u5, hu5, R5, X5, f5⟩ := p_isWord R4 (wl_at 5 (by decide)).1 (wl_at 5 (by decide)).2 w_5
  rw [hu5, zbind_some]
  by_cases g5 : tWd L (tW 5) τ = true
  · have e : tKd L τ = (some 5, (tTk L (tW 5) τ).2) := tKd_at (k := 5) (by decide) (fun j hj => by
        have : j = 0 ∨ j = 1 ∨ j = 2 ∨ j = 3 ∨ j = 4 := by omega
        rcases this with rfl | rfl | rfl | rfl | rfl
        · exact (by rw [tTk_1]; exact g0)
        · exact (by rw [tTk_1]; exact g1)
        · exact (by rw [tTk_1]; exact g2)
        · exact (by rw [tTk_1]; exact g3)
        · exact (by rw [tTk_1]; exact g4)) (by rw [tTk_1]; exact g5)
    rw [if_pos g5, if_neg (show ¬ (1 : Int32) = 0 by decide), e]
    exact ⟨u5, rfl, R5, X5, fr2_tr (fr2_tr (fr2_tr (fr2_tr (fr2_tr (f0) f1) f3) f2) f4) f5⟩
  rw [if_neg g5, if_pos rfl]
  rw [tKd_no (fun j hj => by
    rw [tTk_1]
    have : j = 0 ∨ j = 1 ∨ j = 2 ∨ j = 3 ∨ j = 4 ∨ j = 5 := by omega
    rcases this with rfl | rfl | rfl | rfl | rfl | rfl
    · exact g0
    · exact g1
    · exact g2
    · exact g3
    · exact g4
    · exact g5)]
  exact ⟨u5, rfl, R5, X5, fr2_tr (fr2_tr (fr2_tr (fr2_tr (fr2_tr (f0) f1) f3) f2) f4) f5⟩
theorem p_toward {L : List Nat} {α : sA} {fl : Bool} {c p k : Nat} (ha : okA α) (hc : c ≤ 60) {v : zV} (h : rdM L (.inl p) v) (hx : exM (.inl p) v) (hd : eAc α fl v) (h7c : v 116 7 = nI c) (ek : (tKd L (.inl p)).1 = some k) (hk : k < 6) : ∃ u, fX10_clause 116 v = fX10_clause_94 116 (nI (mK k)) u ∧ rdM L (if tFo α fl c k = 0 then .inl p else .inr (tFo α fl c k, p)) u ∧ (tFo α fl c k = 0 → exM (.inl p) u) ∧ fr2 v u := by
  obtain ⟨u1, hu1, R1, X1, f1⟩ := p_kindM h hx
  rw [ek] at hu1
  obtain ⟨h0, h1, h2, h3, h4, h5, h6, h25⟩ := eAc_2 hd ha f1
  have u7 : u1 116 7 = nI c := (f1.2 7 (by decide) (by decide) (by decide)).trans h7c
  obtain ⟨⟨a0, a1, a2, a3, a4, a5, a6⟩, -⟩ := ha
  have W : ∀ s, 1 ≤ s → s ≤ 4 → s = tFo α fl c k → ∃ u, fX10_wrong 116 (nI s) (u1 116 4) u1 = some u ∧ rdM L (if tFo α fl c k = 0 then .inl p else .inr (tFo α fl c k, p)) u ∧ (tFo α fl c k = 0 → exM (.inl p) u) ∧ fr2 v u := by
    intro s s1 s4 es
    obtain ⟨u, hu, uR, uf⟩ := p_wrong R1 (k := s) (pl := p) ⟨s1, s4⟩ (y := u1 116 4) (fun _ _ => X1 p rfl)
    refine ⟨u, hu, ?_, fun z => by omega, fr2_tr f1 uf⟩
    rw [if_neg (by omega), ← es]
    exact uR
  have G : 0 = tFo α fl c k → rdM L (if tFo α fl c k = 0 then .inl p else .inr (tFo α fl c k, p)) u1 ∧ (tFo α fl c k = 0 → exM (.inl p) u1) ∧ fr2 v u1 := fun es => ⟨by rw [if_pos es.symm]; exact R1, fun _ => X1, f1⟩
  have kn : ¬ nI (mK k) = (-1 : Int32) := fun z => by
    have hm : mK k < 100 := by unfold mK; split <;> (try split) <;> omega
    have := (ng_eq (a := mK k) (k := 1) (by omega) (by decide) (by decide))
    have z2 : nI (mK k) = -nI 1 := z
    rw [this] at z2
    exact z2
  have hu1' : fX10_kindHere 116 v = some (nI (mK k), u1) := hu1
  unfold fX10_clause
  rw [hu1', zbind_some, if_neg kn, u7]
  have c1 : (1 : Int32).toNatClampNeg = 1 := rfl
  have c0 : (0 : Int32).toNatClampNeg = 0 := rfl
  have c2 : (2 : Int32).toNatClampNeg = 2 := rfl
  have c3 : (3 : Int32).toNatClampNeg = 3 := rfl
  have z0 : ∀ {γ : Type} (k : Option γ), zix (0 : Int32) 6 k = k := fun k => Eq.trans rfl rfl
  have z1 : ∀ {γ : Type} (k : Option γ), zix (1 : Int32) 6 k = k := fun k => Eq.trans rfl rfl
  have z2 : ∀ {γ : Type} (k : Option γ), zix (2 : Int32) 6 k = k := fun k => Eq.trans rfl rfl
  have z3 : ∀ {γ : Type} (k : Option γ), zix (3 : Int32) 6 k = k := fun k => Eq.trans rfl rfl
  by_cases g60 : c = 60
  · have es : 3 = tFo α fl c k := by unfold tFo; rw [if_pos (show 60 ≤ c by omega)]
    obtain ⟨u, hu, z⟩ := W 3 (by decide) (by decide) es
    refine ⟨u, ?_, z⟩
    rw [if_pos (show nI c = 60 by rw [g60]; rfl), show (3 : Int32) = nI 3 from rfl, hu, zbindv_some]
  rw [if_neg (show ¬ nI c = 60 from fun z => g60 ((nI_eq (b := 60) (by omega) (by omega)).mp z))]
  have hcn : ¬ 60 ≤ c := by omega
  have eq : ∀ {a b : Nat}, a < 100 → b < 100 → ((nI a = nI b) = (a = b)) := fun q1 q2 => nI_eq' (by omega) (by omega)
  have : k = 0 ∨ k = 1 ∨ k = 2 ∨ k = 3 ∨ k = 4 ∨ k = 5 := by omega
  rcases this with rfl | rfl | rfl | rfl | rfl | rfl
  · -- question
    unfold fX10_isFull
    rw [show mK 0 = 0 from rfl, if_pos (show nI 0 = 0 from rfl), rx_11, lR.1, z0, c0, h0 0 (by decide)]
    by_cases g : α 0 0 = 6
    · have es : 3 = tFo α fl c 0 := by unfold tFo; rw [if_neg hcn, if_pos rfl, if_pos (by omega)]
      obtain ⟨u, hu, z⟩ := W 3 (by decide) (by decide) es
      refine ⟨u, ?_, z⟩
      rw [if_pos (show nI (α 0 0) = 6 by rw [g]; rfl), zbind_some, if_neg (show ¬ (1 : Int32) = 0 by decide), show (3 : Int32) = nI 3 from rfl, hu, zbindv_some]
    rw [if_neg (show ¬ nI (α 0 0) = 6 from fun z => g ((eq (b := 6) (by omega) (by omega)).mp z)), zbind_some, if_pos rfl, if_pos (show nI 0 = 0 from rfl), z1, c1, h0 1 (by decide)]
    by_cases g2 : 0 < α 0 1
    · have es : 4 = tFo α fl c 0 := by unfold tFo; rw [if_neg hcn, if_pos rfl, if_neg (by omega), if_pos g2]
      obtain ⟨u, hu, z⟩ := W 4 (by decide) (by decide) es
      refine ⟨u, ?_, z⟩
      rw [if_pos (show (0 : Int32) < nI (α 0 1) from (nI_lt' (a := 0) (by omega) (by omega)).mpr g2), show (4 : Int32) = nI 4 from rfl, hu, zbindv_some]
    · have es : 0 = tFo α fl c 0 := by unfold tFo; rw [if_neg hcn, if_pos rfl, if_neg (by omega), if_neg g2]
      refine ⟨u1, ?_, G es⟩
      rw [if_neg (show ¬ (0 : Int32) < nI (α 0 1) from fun z => g2 ((nI_lt' (a := 0) (by omega) (by omega)).mp z))]
      unfold fX10_clause_64
      rw [if_neg (show ¬ nI 0 = (2 : Int32) by decide)]
  · -- man
    unfold fX10_isFull
    rw [show mK 1 = 1 from rfl, if_neg (show ¬ nI 1 = (0 : Int32) by decide), if_pos (show nI 1 = 1 from rfl), rx_11, lR.1, z1, c1, h0 1 (by decide)]
    by_cases g : α 0 1 = 16
    · have es : 3 = tFo α fl c 1 := by unfold tFo; rw [if_neg hcn, if_neg (by decide), if_pos rfl, if_pos (by omega)]
      obtain ⟨u, hu, z⟩ := W 3 (by decide) (by decide) es
      refine ⟨u, ?_, z⟩
      rw [if_pos (show nI (α 0 1) = 16 by rw [g]; rfl), zbind_some, if_neg (show ¬ (1 : Int32) = 0 by decide), show (3 : Int32) = nI 3 from rfl, hu, zbindv_some]
    · have es : 0 = tFo α fl c 1 := by unfold tFo; rw [if_neg hcn, if_neg (by decide), if_pos rfl, if_neg (by omega)]
      refine ⟨u1, ?_, G es⟩
      rw [if_neg (show ¬ nI (α 0 1) = 16 from fun z => g ((eq (b := 16) (by omega) (by omega)).mp z)), zbind_some, if_pos rfl, if_neg (show ¬ nI 1 = (0 : Int32) by decide)]
      unfold fX10_clause_64
      rw [if_neg (show ¬ nI 1 = (2 : Int32) by decide)]
  · -- seat
    unfold fX10_isFull
    rw [show mK 2 = 3 from rfl, if_neg (show ¬ nI 3 = (0 : Int32) by decide), if_neg (show ¬ nI 3 = (1 : Int32) by decide), if_neg (show ¬ nI 3 = (2 : Int32) by decide), if_pos (show nI 3 = 3 from rfl), rx_11, lR.1, z3, z2, c3, c2, h0 3 (by decide), h0 2 (by decide)]
    by_cases g : α 0 3 = α 0 2
    · have es : 3 = tFo α fl c 2 := by unfold tFo; rw [if_neg hcn, if_neg (by decide), if_neg (by decide), if_pos rfl, if_pos (by omega)]
      obtain ⟨u, hu, z⟩ := W 3 (by decide) (by decide) es
      refine ⟨u, ?_, z⟩
      rw [if_pos (show nI (α 0 3) = nI (α 0 2) by rw [g]), zbind_some, if_neg (show ¬ (1 : Int32) = 0 by decide)]
      show zbindv (fX10_wrong 116 (nI 3) (u1 116 4) u1) _ = _
      rw [hu, zbindv_some]
    · have es : 0 = tFo α fl c 2 := by unfold tFo; rw [if_neg hcn, if_neg (by decide), if_neg (by decide), if_pos rfl, if_neg (by omega)]
      refine ⟨u1, ?_, G es⟩
      rw [if_neg (show ¬ nI (α 0 3) = nI (α 0 2) from fun z => g ((eq (by omega) (by omega)).mp z)), zbind_some, if_pos rfl, if_neg (show ¬ nI 3 = (0 : Int32) by decide)]
      unfold fX10_clause_64
      rw [if_neg (show ¬ nI 3 = (2 : Int32) by decide)]
  · -- chairs
    unfold fX10_isFull
    rw [show mK 3 = 2 from rfl, if_neg (show ¬ nI 2 = (0 : Int32) by decide), if_neg (show ¬ nI 2 = (1 : Int32) by decide), if_pos (show nI 2 = 2 from rfl), zbind_some, if_pos rfl, if_neg (show ¬ nI 2 = (0 : Int32) by decide)]
    unfold fX10_clause_64
    rw [if_pos (show nI 2 = 2 from rfl), h25, rx_11, lR.1, z3, c3, h0 3 (by decide)]
    cases fl with
    | true =>
      have es : 4 = tFo α true c 3 := by unfold tFo; rw [if_neg hcn, if_neg (by decide), if_neg (by decide), if_neg (by decide), if_pos rfl, if_pos (Or.inr rfl)]
      obtain ⟨u, hu, z⟩ := W 4 (by decide) (by decide) es
      refine ⟨u, ?_, z⟩
      rw [if_pos rfl, if_neg (show ¬ nI 1 = (0 : Int32) by decide), show (4 : Int32) = nI 4 from rfl, hu, zbindv_some]
    | false =>
      rw [if_neg Bool.false_ne_true, if_pos (show nI 0 = 0 from rfl)]
      by_cases g : 0 < α 0 3
      · have es : 4 = tFo α false c 3 := by unfold tFo; rw [if_neg hcn, if_neg (by decide), if_neg (by decide), if_neg (by decide), if_pos rfl, if_pos (Or.inl g)]
        obtain ⟨u, hu, z⟩ := W 4 (by decide) (by decide) es
        refine ⟨u, ?_, z⟩
        rw [if_neg (show ¬ nI (α 0 3) ≤ 0 from leN (b := 0) (by omega) (by omega) (by omega)), show (4 : Int32) = nI 4 from rfl, hu, zbindv_some]
      · have es : 0 = tFo α false c 3 := by unfold tFo; rw [if_neg hcn, if_neg (by decide), if_neg (by decide), if_neg (by decide), if_pos rfl, if_neg (fun z => by rcases z with z | z; exact g z; cases z)]
        refine ⟨u1, ?_, G es⟩
        rw [if_pos (show nI (α 0 3) ≤ 0 from leY (b := 0) (by omega) (by omega) (by omega))]
  · -- dies
    unfold fX10_isFull
    rw [show mK 4 = 4 from rfl, if_neg (show ¬ nI 4 = (0 : Int32) by decide), if_neg (show ¬ nI 4 = (1 : Int32) by decide), if_neg (show ¬ nI 4 = (2 : Int32) by decide), if_neg (show ¬ nI 4 = (3 : Int32) by decide), if_pos (show nI 4 = 4 from rfl), rx_11, lR.1, zix_nI (by decide) (by decide), nI_cl' (by decide), h0 4 (by decide)]
    by_cases g : α 0 4 = 12
    · have es : 3 = tFo α fl c 4 := by unfold tFo; rw [if_neg hcn, if_neg (by decide), if_neg (by decide), if_neg (by decide), if_neg (by decide), if_pos rfl, if_pos (by omega)]
      obtain ⟨u, hu, z⟩ := W 3 (by decide) (by decide) es
      refine ⟨u, ?_, z⟩
      rw [if_pos (show nI (α 0 4) = 12 by rw [g]; rfl), zbind_some, if_neg (show ¬ (1 : Int32) = 0 by decide), show (3 : Int32) = nI 3 from rfl, hu, zbindv_some]
    · have es : 0 = tFo α fl c 4 := by unfold tFo; rw [if_neg hcn, if_neg (by decide), if_neg (by decide), if_neg (by decide), if_neg (by decide), if_pos rfl, if_neg (by omega)]
      refine ⟨u1, ?_, G es⟩
      rw [if_neg (show ¬ nI (α 0 4) = 12 from fun z => g ((eq (b := 12) (by omega) (by omega)).mp z)), zbind_some, if_pos rfl, if_neg (show ¬ nI 4 = (0 : Int32) by decide)]
      unfold fX10_clause_64
      rw [if_neg (show ¬ nI 4 = (2 : Int32) by decide)]
  · -- praise
    unfold fX10_isFull
    rw [show mK 5 = 5 from rfl, if_neg (show ¬ nI 5 = (0 : Int32) by decide), if_neg (show ¬ nI 5 = (1 : Int32) by decide), if_neg (show ¬ nI 5 = (2 : Int32) by decide), if_neg (show ¬ nI 5 = (3 : Int32) by decide), if_neg (show ¬ nI 5 = (4 : Int32) by decide), if_pos (show nI 5 = 5 from rfl), rx_11, lR.1, zix_nI (by decide) (by decide), nI_cl' (by decide), h0 5 (by decide)]
    by_cases g : α 0 5 = 12
    · have es : 3 = tFo α fl c 5 := by unfold tFo; rw [if_neg hcn, if_neg (by decide), if_neg (by decide), if_neg (by decide), if_neg (by decide), if_neg (by decide), if_pos (by omega)]
      obtain ⟨u, hu, z⟩ := W 3 (by decide) (by decide) es
      refine ⟨u, ?_, z⟩
      rw [if_pos (show nI (α 0 5) = 12 by rw [g]; rfl), zbind_some, if_neg (show ¬ (1 : Int32) = 0 by decide), show (3 : Int32) = nI 3 from rfl, hu, zbindv_some]
    · have es : 0 = tFo α fl c 5 := by unfold tFo; rw [if_neg hcn, if_neg (by decide), if_neg (by decide), if_neg (by decide), if_neg (by decide), if_neg (by decide), if_neg (by omega)]
      refine ⟨u1, ?_, G es⟩
      rw [if_neg (show ¬ nI (α 0 5) = 12 from fun z => g ((eq (b := 12) (by omega) (by omega)).mp z)), zbind_some, if_pos rfl, if_neg (show ¬ nI 5 = (0 : Int32) by decide)]
      unfold fX10_clause_64
      rw [if_neg (show ¬ nI 5 = (2 : Int32) by decide)]
theorem p_mClause {L : List Nat} {α : sA} {fl : Bool} {c p : Nat} (ha : okA α) (hc : c ≤ 60) {v : zV} (h : rdM L (.inl p) v) (hx : exM (.inl p) v) (hd : eAc α fl v) (h7c : v 116 7 = nI c) : ∃ w, fX10_clause 116 v = some w ∧ rdM L (tCl L c (α, fl) (.inl p)).2 w ∧ (∀ q, (tCl L c (α, fl) (.inl p)).2 = .inl q → c < 60 ∧ eAc (tCl L c (α, fl) (.inl p)).1.1 (tCl L c (α, fl) (.inl p)).1.2 w ∧ okA (tCl L c (α, fl) (.inl p)).1.1 ∧ w 116 7 = nI (c + 1)) ∧ fr9 v w := by
  unfold tCl
  cases ek : (tKd L (.inl p)).1 with
  | none =>
    obtain ⟨u1, hu1, R1, X1, f1⟩ := p_kindM h hx
    rw [ek] at hu1
    obtain ⟨u, hu, uR, uf⟩ := p_wrong R1 (k := 1) (pl := p) (by decide) (y := u1 116 4) (fun _ _ => X1 p rfl)
    refine ⟨u, ?_, uR, fun q hq => absurd (show tFl (.inl p) 1 p = .inl q from hq) tFl_no, fr9_2 (fr2_tr f1 uf)⟩
    have hu1' : fX10_kindHere 116 v = some (-1, u1) := hu1
    unfold fX10_clause
    rw [hu1', zbind_some, if_pos rfl, show (1 : Int32) = nI 1 from rfl, hu, zbindv_some]
    unfold fX10_clause_94
    rw [if_neg (rdM_n uR)]
  | some k =>
    obtain ⟨k6, p', ep, ip, e2⟩ := tKd_lt ek
    cases ep
    obtain ⟨u, hu, uR, uX, uf⟩ := p_toward ha hc h hx hd h7c ek k6
    dsimp only
    rw [hu]
    by_cases g : tFo α fl c k = 0
    · rw [if_pos g] at uR
      rw [if_pos g]
      have uX := uX g
      obtain ⟨s, hs, sR, sf⟩ := p_skipWord uR uX
      rw [tIs_we ip] at sR
      have hall := fr2_tr uf sf
      have s7 : s 116 7 = nI c := (hall.2 7 (by decide) (by decide) (by decide)).trans h7c
      have ya : ∀ a, a ≠ 116 → zup s 116 7 (nI (c + 1)) a = s a := fun a q => p_up_a _ _ _ q
      have yk : ∀ j, j ≠ 7 → zup s 116 7 (nI (c + 1)) 116 j = s 116 j := fun j q => p_up_n _ _ (Or.inr q)
      have y7 : zup s 116 7 (nI (c + 1)) 116 7 = nI (c + 1) := p_up_s _ _ _ _
      have yR : rdM L (.inl (tSk L (p + (tW k).length))) (zup s 116 7 (nI (c + 1))) := by
        obtain ⟨⟨k1, k2, k3⟩, p0, k4, k5, k6, k7, k8⟩ := sR
        exact ⟨⟨k1, by rw [yk 2 (by decide)]; exact k2, fun i hi => by rw [ya 117 (by decide)]; exact k3 i hi⟩, p0, k4, by rw [yk 4 (by decide)]; exact k5, by rw [yk 5 (by decide)]; exact k6, by rw [yk 6 (by decide)]; exact k7, k8⟩
      have yE : eAc α fl (zup s 116 7 (nI (c + 1))) := by
        obtain ⟨h0, h1, h2, h3, h4, h5, h6, h7⟩ := eAc_2 hd ha hall
        obtain ⟨⟨a0, a1, a2, a3, a4, a5, a6⟩, -⟩ := ha
        exact ⟨fun k hk => by rw [ya 119 (by decide)]; exact h0 k hk, fun k hk => by rw [ya 121 (by decide)]; exact h1 k hk, fun k hk => by rw [ya 123 (by decide)]; exact h2 k hk, fun k hk => by rw [ya 125 (by decide)]; exact h3 k hk, fun m hm q hq => by rw [ya (128 + m) (by omega)]; exact h4 m hm q hq, fun k hk j hj => by rw [ya (162 + k) (by omega)]; exact h5 k hk j hj, fun k hk j hj => by rw [ya (188 + k) (by omega)]; exact h6 k hk j hj, by rw [yk 25 (by decide)]; exact h7⟩
      have fy : fr9 s (zup s 116 7 (nI (c + 1))) := ⟨fun a q => ya a q.1, fun j _ _ _ q _ => yk j q⟩
      have uR0 := rdM_0 uR
      unfold fX10_clause_94
      rw [uR0, if_pos (show nI 0 = 0 from rfl), hs, zbindv_some, s7, show (nI c + 1 : Int32) = nI (c + 1) from nI_add _ 1, zlet_eq]
      generalize zup s 116 7 (nI (c + 1)) = y at ya yk y7 yR yE fy
      have fin : ∀ (f : zV → Option zV), mRd L k f → ∃ w, f y = some w ∧ rdM L (tSg L 59 (rdA L k α (tKd L (.inl p)).2).2) w ∧ (∀ q, tSg L 59 (rdA L k α (tKd L (.inl p)).2).2 = .inl q → c < 60 ∧ eAc (rdA L k α (tKd L (.inl p)).2).1 (fl || decide (k = 3)) w ∧ okA (rdA L k α (tKd L (.inl p)).2).1 ∧ w 116 7 = nI (c + 1)) ∧ fr9 v w := by
        intro f hf
        rw [e2]
        obtain ⟨w, hw, wR, wd, wf⟩ := hf α fl c _ y ha g yR yE
        refine ⟨w, hw, wR, fun q hq => ?_, fr9_tr (fr9_2 hall) (fr9_tr fy (fr9_8 wf))⟩
        obtain ⟨p3, e3⟩ := tSg_in hq
        have := tFo_c g
        exact ⟨by omega, wd q hq, okA_rd k6 ha g e3, (wf.2 7 (by decide) (by decide) (by decide) (by decide)).trans y7⟩
      have : k = 0 ∨ k = 1 ∨ k = 2 ∨ k = 3 ∨ k = 4 ∨ k = 5 := by omega
      rcases this with rfl | rfl | rfl | rfl | rfl | rfl
      · rw [show mK 0 = 0 from rfl, if_pos (show nI 0 = 0 from rfl)]
        exact fin _ (q_0 L)
      · rw [show mK 1 = 1 from rfl, if_neg (show ¬ nI 1 = (0 : Int32) by decide), if_pos (show nI 1 = 1 from rfl)]
        exact fin _ (q_1 L)
      · rw [show mK 2 = 3 from rfl, if_neg (show ¬ nI 3 = (0 : Int32) by decide), if_neg (show ¬ nI 3 = (1 : Int32) by decide), if_neg (show ¬ nI 3 = (2 : Int32) by decide), if_pos (show nI 3 = 3 from rfl)]
        exact fin _ (q_2 L)
      · rw [show mK 3 = 2 from rfl, if_neg (show ¬ nI 2 = (0 : Int32) by decide), if_neg (show ¬ nI 2 = (1 : Int32) by decide), if_pos (show nI 2 = 2 from rfl)]
        exact fin _ (q_3 L)
      · rw [show mK 4 = 4 from rfl, if_neg (show ¬ nI 4 = (0 : Int32) by decide), if_neg (show ¬ nI 4 = (1 : Int32) by decide), if_neg (show ¬ nI 4 = (2 : Int32) by decide), if_neg (show ¬ nI 4 = (3 : Int32) by decide), if_pos (show nI 4 = 4 from rfl)]
        exact fin _ (q_4 L)
      · rw [show mK 5 = 5 from rfl, if_neg (show ¬ nI 5 = (0 : Int32) by decide), if_neg (show ¬ nI 5 = (1 : Int32) by decide), if_neg (show ¬ nI 5 = (2 : Int32) by decide), if_neg (show ¬ nI 5 = (3 : Int32) by decide), if_neg (show ¬ nI 5 = (4 : Int32) by decide)]
        exact fin _ (q_5 L)
    · rw [if_neg g] at uR
      rw [if_neg g, e2]
      refine ⟨u, ?_, uR, fun q hq => absurd (show tFl (.inl (tSk L (p + (tW k).length))) (tFo α fl c k) p = .inl q from hq) tFl_no, fr9_2 uf⟩
      unfold fX10_clause_94
      rw [if_neg (rdM_n uR)]
theorem p_mAcadL {L : List Nat} : ∀ (d n c : Nat) (s : sA × Bool) (τ : rdE) (v : zV), c + d = 61 → d < n → rdM L τ v → exM τ v → (∀ p, τ = .inl p → eAc s.1 s.2 v ∧ okA s.1 ∧ v 116 7 = nI c ∧ c ≤ 60) → ∃ w, fX10_academy_42 n 116 v = fX10_academy_71 116 w ∧ rdM L (tAc L d c s τ).2 w ∧ (∀ q, (tAc L d c s τ).2 = .inl q → eAc (tAc L d c s τ).1.1 (tAc L d c s τ).1.2 w ∧ okA (tAc L d c s τ).1.1) ∧ fr9 v w := by
  have stop : ∀ (n : Nat) (f : Nat × Nat) (v : zV), rdM L (.inr f) v → fX10_academy_42 (n + 1) 116 v = fX10_academy_71 116 v := by
    intro n f v h
    rw [fX10_academy_42]
    dsimp only
    rw [if_neg (rdM_n h)]
  intro d
  induction d with
  | zero =>
    intro n c s τ v e hn h hx hd
    obtain ⟨n, rfl⟩ : ∃ k, n = k + 1 := ⟨n - 1, by omega⟩
    cases τ with
    | inl p => have := (hd p rfl).2.2.2; omega
    | inr f => exact ⟨v, stop n f v h, h, fun q hq => (by cases hq), fr9_2 (fr2_rf v)⟩
  | succ d ih =>
    intro n c s τ v e hn h hx hd
    obtain ⟨n, rfl⟩ : ∃ k, n = k + 1 := ⟨n - 1, by omega⟩
    cases τ with
    | inr f => exact ⟨v, stop n f v h, h, fun q hq => (by cases hq), fr9_2 (fr2_rf v)⟩
    | inl p =>
      obtain ⟨hd0, ha, h7, hc⟩ := hd p rfl
      have hL := h.1.1
      have hp := rdM_np h
      by_cases g : p < L.length
      · have e1 : tAc L (d + 1) c s (.inl p) = tAc L d (c + 1) (tCl L c s (.inl p)).1 (tCl L c s (.inl p)).2 := if_pos g
        rw [e1]
        obtain ⟨w, hw, wR, wq, wf⟩ := p_mClause (α := s.1) (fl := s.2) ha hc h hx hd0 h7
        obtain ⟨t, ht, tR, tX, ta, tk⟩ := p_blanks wR
        have tf := mk_fr ta tk
        obtain ⟨z, hz, zR, zd, zf⟩ := ih n (c + 1) (tCl L c s (.inl p)).1 (tCl L c s (.inl p)).2 t (by omega) (by omega) tR tX (fun q hq => by
          obtain ⟨q1, q2, q3, q4⟩ := wq q hq
          exact ⟨eAc_2 q2 q3 tf, q3, (tf.2 7 (by decide) (by decide) (by decide)).trans q4, by omega⟩)
        refine ⟨z, ?_, zR, zd, fr9_tr wf (fr9_tr (fr9_2 tf) zf)⟩
        rw [fX10_academy_42]
        dsimp only
        rw [rdM_0 h, if_pos (show nI 0 = 0 from rfl), h.1.2.1, hx p rfl, if_neg (leN (by omega) (by omega) (by omega)), hw, zbindv_some, ht, zbindv_some]
        exact hz
      · have e1 : tAc L (d + 1) c s (.inl p) = (s, .inl p) := if_neg g
        rw [e1]
        refine ⟨v, ?_, h, fun q hq => ⟨hd0, ha⟩, fr9_2 (fr2_rf v)⟩
        rw [fX10_academy_42]
        dsimp only
        rw [rdM_0 h, if_pos (show nI 0 = 0 from rfl), h.1.2.1, hx p rfl, if_pos (leY (by omega) (by omega) (by omega))]
theorem p_tellsN (v : zV) : ∃ w, fX10_tellsNothing 116 v = some w ∧ eAc α0n false w ∧ (∀ a, a ≠ 116 → a ≠ 119 → w a = v a) ∧ ∀ k, k ≠ 25 → w 116 k = v 116 k := by
  have L : ∀ (d n j : Nat) (v : zV), j + d = 6 → d < n → (∀ i, i < j → v 119 i = nI 0) → ∃ w, fX10_tellsNothing_2 n 116 (nI j) v = some (zup (zup w 119 2 6) 116 25 0) ∧ (∀ i, i < 6 → w 119 i = nI 0) ∧ ∀ a, a ≠ 119 → w a = v a := by
    intro d
    induction d with
    | zero =>
      intro n j v e hn h
      obtain ⟨n, rfl⟩ : ∃ k, n = k + 1 := ⟨n - 1, by omega⟩
      refine ⟨v, ?_, fun i hi => h i (by omega), fun _ _ => rfl⟩
      rw [fX10_tellsNothing_2]
      dsimp only
      rw [if_pos (show (6 : Int32) ≤ nI j from leY (a := 6) (by omega) (by omega) (by omega)), rx_11, lR.1]
      rfl
    | succ d ih =>
      intro n j v e hn h
      obtain ⟨n, rfl⟩ : ∃ k, n = k + 1 := ⟨n - 1, by omega⟩
      obtain ⟨w, hw, w1, wa⟩ := ih n (j + 1) (zup v 119 j 0) (by omega) (by omega) (fun i hi => by
        rw [up_at]
        by_cases g : i = j
        · rw [if_pos g]; rfl
        · rw [if_neg g]; exact h i (by omega))
      refine ⟨w, ?_, w1, fun a g => (wa a g).trans (p_up_a _ _ _ g)⟩
      rw [fX10_tellsNothing_2]
      dsimp only
      rw [if_neg (show ¬ (6 : Int32) ≤ nI j from leN (a := 6) (by omega) (by omega) (by omega)), rx_11, lR.1, zix_nI (by omega) (by omega), nI_cl' (by omega), zlet_eq, show (nI j + 1 : Int32) = nI (j + 1) from nI_add _ 1, hw]
  obtain ⟨w, hw, w1, wa⟩ := L 6 zFU 0 v rfl (by unfold zFU; omega) (fun i hi => absurd hi (Nat.not_lt_zero i))
  refine ⟨zup (zup w 119 2 6) 116 25 0, hw, ⟨fun k hk => ?_, fun q hq => absurd hq (Nat.not_lt_zero q), fun q hq => absurd hq (Nat.not_lt_zero q), fun q hq => absurd hq (Nat.not_lt_zero q), fun q hq => absurd hq (Nat.not_lt_zero q), fun q hq => absurd hq (Nat.not_lt_zero q), fun q hq => absurd hq (Nat.not_lt_zero q), p_up_s _ _ _ _⟩, fun a g1 g2 => by rw [p_up_a _ _ _ g1, p_up_a _ _ _ g2, wa a g2], fun k g => by rw [p_up_n _ _ (Or.inr g), p_up_a _ _ _ (by decide), wa 116 (by decide)]⟩
  rw [p_up_a _ _ _ (by decide), up_at]
  by_cases g : k = 2
  · rw [if_pos g, g]; rfl
  · rw [if_neg g, w1 k hk]
    show nI 0 = nI (if 0 = 0 ∧ k = 2 then 6 else 0)
    rw [if_neg (fun z => g z.2)]
end
