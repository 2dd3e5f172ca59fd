/-! ACADEMY: the reference reads it -/
section
def eAc (α : sA) (fl : Bool) (v : zV) : Prop := (∀ k, k < 6 → v 119 k = nI (α 0 k)) ∧ (∀ q, q < α 0 0 → v 121 q = nI (α 1 q)) ∧ (∀ m, m < α 0 1 → v 123 m = nI (α 2 m)) ∧ (∀ c, c < α 0 3 → v 125 c = nI (α 3 c)) ∧ (∀ m, m < α 0 1 → ∀ q, q < α 0 0 → v (128 + m) q = nI (α (10 + m) q)) ∧ (∀ k, k < α 0 4 → ∀ j, j < 2 → v (162 + k) j = nI (α (30 + k) j)) ∧ (∀ k, k < α 0 5 → ∀ j, j < 3 → v (188 + k) j = nI (α (50 + k) j)) ∧ v 116 25 = if fl = true then nI 1 else nI 0
def fr8 (v w : zV) : Prop := (∀ a, a ≠ 116 ∧ a ≠ 119 ∧ a ≠ 121 ∧ a ≠ 123 ∧ a ≠ 125 ∧ (a < 128 ∨ 143 < a) ∧ (a < 162 ∨ 173 < a) ∧ (a < 188 ∨ 199 < a) → w a = v a) ∧ ∀ k, k ≠ 4 → k ≠ 5 → k ≠ 6 → k ≠ 25 → w 116 k = v 116 k
theorem fr8_tr {v w u : zV} (h1 : fr8 v w) (h2 : fr8 w u) : fr8 v u := ⟨fun a g => (h2.1 a g).trans (h1.1 a g), fun k g1 g2 g3 g4 => (h2.2 k g1 g2 g3 g4).trans (h1.2 k g1 g2 g3 g4)⟩
theorem fr8_2 {v w : zV} (h : fr2 v w) : fr8 v w := ⟨fun a g => h.1 a g.1, fun k g1 g2 g3 _ => h.2 k g1 g2 g3⟩
theorem fr8_a {v w : zV} (a0 : Nat) (ha : a0 = 119 ∨ a0 = 121 ∨ a0 = 123 ∨ a0 = 125 ∨ (128 ≤ a0 ∧ a0 ≤ 143) ∨ (162 ≤ a0 ∧ a0 ≤ 173) ∨ (188 ≤ a0 ∧ a0 ≤ 199)) (h : ∀ a, a ≠ a0 → w a = v a) : fr8 v w := ⟨fun a g => h a (by omega), fun k _ _ _ _ => by rw [h 116 (by omega)]⟩
theorem eAc_2 {α : sA} {fl : Bool} {v w : zV} (h : eAc α fl v) (ha : okA α) (e : fr2 v w) : eAc α fl w := by
  obtain ⟨⟨a0, a1, a2, a3, a4, a5, a6⟩, -⟩ := ha
  obtain ⟨h0, h1, h2, h3, h4, h5, h6, h7⟩ := h
  exact ⟨fun k hk => by rw [e.1 119 (by decide)]; exact h0 k hk, fun k hk => by rw [e.1 121 (by decide)]; exact h1 k hk, fun k hk => by rw [e.1 123 (by decide)]; exact h2 k hk, fun k hk => by rw [e.1 125 (by decide)]; exact h3 k hk, fun m hm q hq => by rw [e.1 (128 + m) (by omega)]; exact h4 m hm q hq, fun k hk j hj => by rw [e.1 (162 + k) (by omega)]; exact h5 k hk j hj, fun k hk j hj => by rw [e.1 (188 + k) (by omega)]; exact h6 k hk j hj, (e.2 25 (by decide) (by decide) (by decide)).trans h7⟩
theorem rx_11 : zrf 116 11 = 119 := by decide +kernel
theorem rx_13 : zrf 116 13 = 121 := by decide +kernel
theorem rx_15 : zrf 116 15 = 123 := by decide +kernel
theorem rx_17 : zrf 116 17 = 125 := by decide +kernel
theorem rx_19 : zrf 116 19 = 127 := by decide +kernel
theorem rx_21 : zrf 116 21 = 161 := by decide +kernel
theorem rx_23 : zrf 116 23 = 187 := by decide +kernel
theorem lR : zlen 119 = 6 ∧ zlen 121 = 6 ∧ zlen 123 = 16 ∧ zlen 125 = 12 ∧ zlen 127 = 16 ∧ zlen 161 = 12 ∧ zlen 187 = 12 := by decide +kernel
/-- a clause's end -/
theorem p_415 {L : List Nat} {τ : rdE} {v : zV} (h : rdM L τ v) {j x : Nat} (hj : j < 6) (hj2 : j ≠ 2) (hx : v 119 j = nI x) : ∃ w, fX10_clause_415 116 (nI j) v = some w ∧ rdM L (tSg L 59 τ) w ∧ ((∃ p, τ = .inl p) → w 119 j = nI (x + 1)) ∧ (∀ i, i ≠ j → w 119 i = v 119 i) ∧ (∀ a, a ≠ 116 → a ≠ 119 → w a = v a) ∧ ∀ k, k ≠ 4 → k ≠ 5 → k ≠ 6 → w 116 k = v 116 k := by
  unfold fX10_clause_415
  rw [if_neg (show ¬ nI j = (2 : Int32) from fun z => hj2 ((nI_is2 (by omega)).mp z)), rx_11, lR.1, zix_nI hj (by omega)]
  cases τ with
  | inl p =>
    have hR : rdM L (.inl p) (zup v 119 j (nI (x + 1))) := rdM_fr h (p_up_a _ _ _ (by decide)) (p_up_a _ _ _ (by decide))
    obtain ⟨w, hw, wR, wf⟩ := p_mSign hR (c := 59) (by decide)
    refine ⟨w, ?_, wR, fun _ => by rw [wf.1 119 (by decide), p_up_s], fun i hi => by rw [wf.1 119 (by decide), p_up_n _ _ (Or.inr hi)], fun a g1 g2 => (wf.1 a g1).trans (p_up_a _ _ _ g2), fun k g1 g2 g3 => (wf.2 k g1 g2 g3).trans (by rw [p_up_a _ _ _ (by decide)])⟩
    rw [rdM_0 h, if_pos (show nI 0 = 0 from rfl), zix_nI hj (by omega), nI_cl' (by omega), hx, zlet_eq, show (nI x + 1 : Int32) = nI (x + 1) from nI_add _ 1, show (59 : Int32) = nI 59 from rfl, hw, zbindv_some]
  | inr f =>
    have hR : rdM L (.inr f) (zup v 119 j (nI x + 0)) := rdM_fr h (p_up_a _ _ _ (by decide)) (p_up_a _ _ _ (by decide))
    obtain ⟨w, hw, wR, wf⟩ := p_mSign hR (c := 59) (by decide)
    refine ⟨w, ?_, wR, fun z => (by obtain ⟨p, hp⟩ := z; cases hp), fun i hi => by rw [wf.1 119 (by decide), p_up_n _ _ (Or.inr hi)], fun a g1 g2 => (wf.1 a g1).trans (p_up_a _ _ _ g2), fun k g1 g2 g3 => (wf.2 k g1 g2 g3).trans (by rw [p_up_a _ _ _ (by decide)])⟩
    rw [if_neg (rdM_n h), zix_nI hj (by omega), nI_cl' (by omega), hx, zlet_eq, show (59 : Int32) = nI 59 from rfl, hw, zbindv_some]
theorem fr8_415 {v w : zV} (wa : ∀ a, a ≠ 116 → a ≠ 119 → w a = v a) (wk : ∀ k, k ≠ 4 → k ≠ 5 → k ≠ 6 → w 116 k = v 116 k) : fr8 v w := ⟨fun a g => wa a g.1 g.2.1, fun k g1 g2 g3 _ => wk k g1 g2 g3⟩
theorem tSg_in {L : List Nat} {c : Nat} {τ : rdE} {q : Nat} (h : tSg L c τ = .inl q) : ∃ p, τ = .inl p := tSg_ok h
/-- the body of a clause of kind k -/
def mRd (L : List Nat) (k : Nat) (f : zV → Option zV) : Prop := ∀ (α : sA) (fl : Bool) (c p : Nat) (v : zV), okA α → tFo α fl c k = 0 → rdM L (.inl p) v → eAc α fl v → ∃ w, f v = some w ∧ rdM L (tSg L 59 (rdA L k α (.inl p)).2) w ∧ (∀ q, tSg L 59 (rdA L k α (.inl p)).2 = .inl q → eAc (rdA L k α (.inl p)).1 (fl || decide (k = 3)) w) ∧ fr8 v w
theorem q_0 (L : List Nat) : mRd L 0 (fun v_2 => zix (0 : Int32) (zlen (zrf 116 11)) <|
      zbind (fX10_number 116 (2 : Int32) (3 : Int32) v_2) fun r_4 v_3 =>
      zix (v_2 (zrf 116 11) ((0 : Int32)).toNatClampNeg) (zlen (zrf 116 13)) <|
      zlet (zup v_3 (zrf 116 13) (v_2 (zrf 116 11) ((0 : Int32)).toNatClampNeg).toNatClampNeg r_4) fun v_5 =>
      fX10_clause_415 116 (nI 0) v_5) := by
  intro α fl c p v ha hf h hd
  obtain ⟨hQ, hM⟩ := tFo_0 hf
  obtain ⟨u, hu, uR, uf⟩ := p_mNumber h (okBd_l (a := 2) (b := 3) (by decide) (by decide))
  obtain ⟨h0, h1, h2, h3, h4, h5, h6, h7⟩ := eAc_2 hd ha uf
  have ea : ∀ a, a ≠ 121 → zup u 121 (α 0 0) (nI (tNum L 2 4 (.inl p)).1) a = u a := fun a g => p_up_a _ _ _ g
  have e121 := up_at u 121 (α 0 0) (nI (tNum L 2 4 (.inl p)).1)
  obtain ⟨w, hw, wR, w119, w119n, wa, wk⟩ := p_415 (L := L) (τ := (tNum L 2 4 (.inl p)).2) (v := zup u 121 (α 0 0) (nI (tNum L 2 4 (.inl p)).1)) (rdM_fr uR (ea 116 (by decide)) (ea 117 (by decide))) (j := 0) (x := α 0 0) (by decide) (by decide) (by rw [ea 119 (by decide)]; exact h0 0 (by decide))
  refine ⟨w, ?_, wR, fun q hq => ?_, fr8_tr (fr8_2 uf) (fr8_tr (fr8_a 121 (by omega) ea) (fr8_415 wa wk))⟩
  · dsimp only
    have v0 : v 119 0 = nI (α 0 0) := hd.1 0 (by decide)
    rw [rx_11, lR.1, rx_13, lR.2.1, show (0 : Int32) = nI 0 from rfl, zix_nI (by decide) (by decide), nI_cl' (by decide), v0]
    rw [show (2 : Int32) = nI 2 from rfl, show (3 : Int32) = nI 3 from rfl, hu, zbind_some, zix_nI hQ (by omega), nI_cl' (by omega), zlet_eq]
    exact hw
  · obtain ⟨v0, v0n, v1, v1n, v2⟩ := rQ_v L α (.inl p)
    have w0 := w119 (tSg_in hq)
    show eAc (rQ L α (.inl p)).1 (fl || decide (0 = 3)) w
    generalize (rQ L α (.inl p)).1 = β at *
    refine ⟨fun k hk => ?_, fun j hj => ?_, fun m hm => ?_, fun j hj => ?_, fun m hm => ?_, fun k hk j hj => ?_, fun k hk j hj => ?_, ?_⟩
    · by_cases g : k = 0
      · rw [g, w0, v0]
      · rw [w119n k g, ea 119 (by decide), h0 k hk, v0n k g]
    · rw [wa 121 (by decide) (by decide), e121]
      by_cases g : j = α 0 0
      · rw [if_pos g, g, v1]
      · rw [if_neg g, v1n j g]; exact h1 j (by omega)
    · rw [v0n 1 (by decide)] at hm; omega
    · rw [v0n 3 (by decide)] at hj
      rw [wa 125 (by decide) (by decide), ea 125 (by decide), v2 3 j (by decide)]; exact h3 j hj
    · rw [v0n 1 (by decide)] at hm; omega
    · rw [v0n 4 (by decide)] at hk
      have := ha.1.2.2.2.2.2.1
      rw [wa _ (by omega) (by omega), ea _ (by omega), v2 _ _ (by omega)]; exact h5 k hk j hj
    · rw [v0n 5 (by decide)] at hk
      have := ha.1.2.2.2.2.2.2
      rw [wa _ (by omega) (by omega), ea _ (by omega), v2 _ _ (by omega)]; exact h6 k hk j hj
    · rw [wk 25 (by decide) (by decide) (by decide), ea 116 (by decide), h7, show (fl || decide (0 = 3)) = fl from Bool.or_false fl]
theorem q_1L {L : List Nat} {α : sA} (ha : okA α) (hM : α 0 1 < 16) : ∀ (d n q : Nat) (B : Nat → Nat) (τ : rdE) (v : zV), q + d = α 0 0 → d < n → rdM L τ v → v 119 0 = nI (α 0 0) → v 119 1 = nI (α 0 1) → (∀ j, j < α 0 0 → v 121 j = nI (α 1 j)) → (∀ i, i < q → v (128 + α 0 1) i = nI (B i)) → ∃ w, fX10_clause_192 n 116 (nI 1) (nI q) v = fX10_clause_415 116 (nI 1) w ∧ rdM L (tBe L (α 1) d q B τ).2 w ∧ (∀ i, i < α 0 0 → w (128 + α 0 1) i = nI ((tBe L (α 1) d q B τ).1 i)) ∧ (∀ a, a ≠ 116 → a ≠ 128 + α 0 1 → w a = v a) ∧ ∀ k, k ≠ 4 → k ≠ 5 → k ≠ 6 → w 116 k = v 116 k := by
  have hQ := ha.1.1
  intro d
  induction d with
  | zero =>
    intro n q B τ v e hn h h0 h01 h1 hB
    obtain ⟨n, rfl⟩ : ∃ k, n = k + 1 := ⟨n - 1, by omega⟩
    refine ⟨v, ?_, h, fun i hi => hB i (by omega), fun _ _ _ => rfl, fun _ _ _ _ => rfl⟩
    rw [fX10_clause_192]
    dsimp only
    rw [rx_11, lR.1, show (0 : Int32) = nI 0 from rfl, zix_nI (by decide) (by decide), nI_cl' (by decide), h0, if_pos (leY (by omega) (by omega) (by omega))]
  | succ d ih =>
    intro n q B τ v e hn h h0 h01 h1 hB
    obtain ⟨n, rfl⟩ : ∃ k, n = k + 1 := ⟨n - 1, by omega⟩
    have hq := ha.2.1 q (by omega)
    obtain ⟨u, hu, uR, uf⟩ := p_mNumber h (okBd_n (b := α 1 q) (by omega))
    have ea : ∀ a, a ≠ 128 + α 0 1 → zup u (128 + α 0 1) q (nI (tNum L 0 (α 1 q) τ).1) a = u a := fun a g => p_up_a _ _ _ g
    have eb := up_at u (128 + α 0 1) q (nI (tNum L 0 (α 1 q) τ).1)
    obtain ⟨w, hw, wR, wB, wa, wk⟩ := ih n (q + 1) (sUp B q (tNum L 0 (α 1 q) τ).1) (tNum L 0 (α 1 q) τ).2 (zup u (128 + α 0 1) q (nI (tNum L 0 (α 1 q) τ).1)) (by omega) (by omega) (rdM_fr uR (ea 116 (by omega)) (ea 117 (by omega))) (by rw [ea 119 (by omega), uf.1 119 (by decide)]; exact h0) (by rw [ea 119 (by omega), uf.1 119 (by decide)]; exact h01) (fun j hj => by rw [ea 121 (by omega), uf.1 121 (by decide)]; exact h1 j hj) (fun i hi => by
      rw [eb]
      by_cases g : i = q
      · rw [if_pos g, g, sUp_s]
      · rw [if_neg g, sUp_n _ _ g, uf.1 (128 + α 0 1) (by omega)]; exact hB i (by omega))
    refine ⟨w, ?_, wR, wB, fun a g1 g2 => (wa a g1 g2).trans ((ea a g2).trans (uf.1 a g1)), fun k g1 g2 g3 => (wk k g1 g2 g3).trans ((by rw [ea 116 (by omega)] : _ = u 116 k).trans (uf.2 k g1 g2 g3))⟩
    rw [fX10_clause_192]
    dsimp only
    have r1 := rfa_127 (α 0 1) hM
    have r2 := lna_127 (α 0 1) hM
    rw [rx_11, lR.1, show (0 : Int32) = nI 0 from rfl, zix_nI (by decide) (by decide), nI_cl' (by decide), h0, if_neg (leN (by omega) (by omega) (by omega)), show (1 : Int32) = nI 1 from rfl, zix_nI (by decide) (by decide), nI_cl' (by decide), h01, rx_19, lR.2.2.2.2.1, zix_nI hM (by omega), rx_13, lR.2.1, zix_nI (show q < 6 by omega) (by omega), nI_cl' (show q < 2 ^ 31 by omega), h1 q (by omega)]
    have hu2 : fX10_number 116 (nI 0) (nI (α 1 q) - nI 1) v = some (nI (tNum L 0 (α 1 q) τ).1, u) := hu
    rw [hu2, zbind_some, nI_cl' (show α 0 1 < 2 ^ 31 by omega), r1, r2, zix_nI (show q < 6 by omega) (by omega), zlet_eq, nI_add]
    exact hw
theorem q_1 (L : List Nat) : mRd L 1 (fun v_2 => zix (1 : Int32) (zlen (zrf 116 11)) <|
        zbind (fX10_number 116 (0 : Int32) (99 : Int32) v_2) fun r_7 v_6 =>
        zix (v_2 (zrf 116 11) ((1 : Int32)).toNatClampNeg) (zlen (zrf 116 15)) <|
        zlet (zup v_6 (zrf 116 15) (v_2 (zrf 116 11) ((1 : Int32)).toNatClampNeg).toNatClampNeg r_7) fun v_8 =>
        fX10_clause_192 zFU 116 (nI 1) (0 : Int32) v_8) := by
  intro α fl c p v ha hf h hd
  have hM := tFo_1 hf
  have hQ := ha.1.1
  obtain ⟨u, hu, uR, uf⟩ := p_mNumber h (okBd_l (a := 0) (b := 99) (by decide) (by decide))
  obtain ⟨h0, h1, h2, h3, h4, h5, h6, h7⟩ := eAc_2 hd ha uf
  have ea : ∀ a, a ≠ 123 → zup u 123 (α 0 1) (nI (tNum L 0 100 (.inl p)).1) a = u a := fun a g => p_up_a _ _ _ g
  have e123 := up_at u 123 (α 0 1) (nI (tNum L 0 100 (.inl p)).1)
  obtain ⟨t, ht, tR, tB, ta, tk⟩ := q_1L (L := L) ha hM (α 0 0) zFU 0 (fun _ => 0) (tNum L 0 100 (.inl p)).2 (zup u 123 (α 0 1) (nI (tNum L 0 100 (.inl p)).1)) (Nat.zero_add _) (by unfold zFU; omega) (rdM_fr uR (ea 116 (by decide)) (ea 117 (by decide))) (by rw [ea 119 (by decide)]; exact h0 0 (by decide)) (by rw [ea 119 (by decide)]; exact h0 1 (by decide)) (fun j hj => by rw [ea 121 (by decide)]; exact h1 j hj) (fun i hi => absurd hi (Nat.not_lt_zero i))
  obtain ⟨w, hw, wR, w119, w119n, wa, wk⟩ := p_415 tR (j := 1) (x := α 0 1) (by decide) (by decide) (by rw [ta 119 (by decide) (by omega), ea 119 (by decide)]; exact h0 1 (by decide))
  have ft : fr8 (zup u 123 (α 0 1) (nI (tNum L 0 100 (.inl p)).1)) t := ⟨fun a g => ta a g.1 (by omega), fun k g1 g2 g3 _ => tk k g1 g2 g3⟩
  refine ⟨w, ?_, wR, fun q hq => ?_, fr8_tr (fr8_2 uf) (fr8_tr (fr8_a 123 (by omega) ea) (fr8_tr ft (fr8_415 wa wk)))⟩
  · dsimp only
    have v0 : v 119 1 = nI (α 0 1) := hd.1 1 (by decide)
    rw [rx_11, lR.1, rx_15, lR.2.2.1, show (1 : Int32) = nI 1 from rfl, zix_nI (by decide) (by decide), nI_cl' (by decide), v0]
    rw [show (0 : Int32) = nI 0 from rfl, show (99 : Int32) = nI 99 from rfl, hu, zbind_some, zix_nI hM (by omega), nI_cl' (by omega), zlet_eq]
    exact ht.trans hw
  · obtain ⟨p2, hp2⟩ := tSg_in hq
    have hq2 : (tBs L α (.inl p)).2 = .inl p2 := hp2
    obtain ⟨v0, v0n, v2, v2n, vB, vo⟩ := rMn_v L α (.inl p)
    have w1 := w119 ⟨p2, hp2⟩
    have tB2 : ∀ i, i < α 0 0 → t (128 + α 0 1) i = nI ((tBs L α (.inl p)).1 i) := tB
    show eAc (rMn L α (.inl p)).1 (fl || decide (1 = 3)) w
    generalize (rMn L α (.inl p)).1 = β at *
    have wu : ∀ a, a ≠ 116 → a ≠ 119 → a ≠ 123 → a ≠ 128 + α 0 1 → w a = u a := fun a g1 g2 g3 g4 => (wa a g1 g2).trans ((ta a g1 g4).trans (ea a g3))
    refine ⟨fun k hk => ?_, fun j hj => ?_, fun m hm => ?_, fun j hj => ?_, fun m hm j hj => ?_, fun k hk j hj => ?_, fun k hk j hj => ?_, ?_⟩
    · by_cases g : k = 1
      · rw [g, w1, v0]
      · rw [w119n k g, ta 119 (by decide) (by omega), ea 119 (by decide), h0 k hk, v0n k g]
    · rw [v0n 0 (by decide)] at hj
      rw [wu 121 (by decide) (by decide) (by decide) (by omega), vo 1 j (by decide) (by decide) (by omega)]; exact h1 j hj
    · rw [wa 123 (by decide) (by decide), ta 123 (by decide) (by omega), e123]
      by_cases g : m = α 0 1
      · rw [if_pos g, g, v2]
      · rw [if_neg g, v2n m g]; exact h2 m (by omega)
    · rw [v0n 3 (by decide)] at hj
      rw [wu 125 (by decide) (by decide) (by decide) (by omega), vo 3 j (by decide) (by decide) (by omega)]; exact h3 j hj
    · rw [v0n 0 (by decide)] at hj
      by_cases g : m = α 0 1
      · rw [g, wa _ (by omega) (by omega), tB2 j hj, vB]
      · rw [wu _ (by omega) (by omega) (by omega) (by omega), vo (10 + m) j (by omega) (by omega) (by omega)]; exact h4 m (by omega) j hj
    · rw [v0n 4 (by decide)] at hk
      have := ha.1.2.2.2.2.2.1
      rw [wu _ (by omega) (by omega) (by omega) (by omega), vo _ _ (by omega) (by omega) (by omega)]; exact h5 k hk j hj
    · rw [v0n 5 (by decide)] at hk
      have := ha.1.2.2.2.2.2.2
      rw [wu _ (by omega) (by omega) (by omega) (by omega), vo _ _ (by omega) (by omega) (by omega)]; exact h6 k hk j hj
    · rw [wk 25 (by decide) (by decide) (by decide), tk 25 (by decide) (by decide) (by decide), ea 116 (by decide), h7, show (fl || decide (1 = 3)) = fl from Bool.or_false fl]
theorem p_manHere {L : List Nat} {τ : rdE} {v : zV} (h : rdM L τ v) {M : Nat} (hM : M ≤ 16) (h1 : v 119 1 = nI M) : ∃ w, fX10_manHere 116 v = some (nI (tNum L 0 M τ).1, w) ∧ rdM L (tNum L 0 M τ).2 w ∧ fr2 v w := by
  obtain ⟨u, hu, uR, uf⟩ := p_mNumber h (okBd_n (b := M) (by omega))
  refine ⟨u, ?_, uR, uf⟩
  unfold fX10_manHere
  have hu2 : fX10_number 116 0 (nI M - nI 1) v = some (nI (tNum L 0 M τ).1, u) := hu
  rw [rx_11, lR.1, show (1 : Int32) = nI 1 from rfl, zix_nI (by decide) (by decide), nI_cl' (by decide), h1, hu2, zbind_some]
theorem q_2L {L : List Nat} {α : sA} (ha : okA α) (hS : α 0 3 < 12) {x : Int32} {m p0 : Nat} (hm : m < 2 ^ 31) : ∀ (d n s : Nat) (τ : rdE) (v : zV), s + d = α 0 3 → d < n → rdM L τ v → v 119 3 = nI (α 0 3) → (∀ j, j < α 0 3 → v 125 j = nI (α 3 j)) → (∀ p, τ = .inl p → x = nI p0) → ∃ w, fX10_clause_285 n 116 (nI 3) x (nI m) (nI s) v = fX10_clause_415 116 (nI 3) (zup w 125 (α 0 3) (nI m)) ∧ rdM L (tDp α m p0 d s τ) w ∧ fr2 v w := by
  have hM := ha.1.2.1
  intro d
  induction d with
  | zero =>
    intro n s τ v e hn h h3 h125 hx
    obtain ⟨n, rfl⟩ : ∃ k, n = k + 1 := ⟨n - 1, by omega⟩
    refine ⟨v, ?_, h, fr2_rf v⟩
    rw [fX10_clause_285]
    dsimp only
    have c3 : (3 : Int32).toNatClampNeg = 3 := rfl
    rw [rx_11, lR.1, c3, h3, show zix (3 : Int32) 6 = fun (k : Option zV) => k from rfl]
    dsimp only
    rw [if_pos (leY (by omega) (by omega) (by omega)), rx_17, lR.2.2.2.1, zix_nI hS (by omega), nI_cl' (by omega), zlet_eq]
  | succ d ih =>
    intro n s τ v e hn h h3 h125 hx
    obtain ⟨n, rfl⟩ : ∃ k, n = k + 1 := ⟨n - 1, by omega⟩
    have hs := ha.2.2.2.1 s (by omega)
    have go : ∃ u, fX10_clause_285 (n + 1) 116 (nI 3) x (nI m) (nI s) v = fX10_clause_285 n 116 (nI 3) x (nI m) (nI (s + 1)) u ∧ rdM L (if α 3 s = m then tFl τ 2 p0 else τ) u ∧ fr2 v u := by
      rw [fX10_clause_285]
      dsimp only
      have c3 : (3 : Int32).toNatClampNeg = 3 := rfl
      rw [rx_11, lR.1, c3, h3, show zix (3 : Int32) 6 = fun (k : Option zV) => k from rfl]
      dsimp only
      rw [if_neg (leN (by omega) (by omega) (by omega)), show (nI s + 1 : Int32) = nI (s + 1) from nI_add _ 1]
      cases τ with
      | inl p =>
        rw [rdM_0 h, if_pos (show nI 0 = 0 from rfl), rx_17, lR.2.2.2.1, zix_nI (show s < 12 by omega) (by omega), nI_cl' (by omega), h125 s (by omega)]
        by_cases g : α 3 s = m
        · obtain ⟨u, hu, uR, uf⟩ := p_wrong h (k := 2) (pl := p0) (by decide) (y := x) (fun p hp => hx p hp)
          rw [if_pos (show nI (α 3 s) = nI m by rw [g]), if_pos g]
          exact ⟨u, by rw [show (2 : Int32) = nI 2 from rfl, hu, zbindv_some], uR, uf⟩
        · rw [if_neg (show ¬ nI (α 3 s) = nI m from fun z => g ((nI_eq (by omega) hm).mp z)), if_neg g]
          exact ⟨v, rfl, h, fr2_rf v⟩
      | inr f =>
        have e2 : (if α 3 s = m then tFl (.inr f) 2 p0 else .inr f) = (.inr f : rdE) := by split <;> rfl
        rw [e2, if_neg (rdM_n h)]
        exact ⟨v, rfl, h, fr2_rf v⟩
    obtain ⟨u, hu, uR, uf⟩ := go
    obtain ⟨w, hw, wR, wf⟩ := ih n (s + 1) (if α 3 s = m then tFl τ 2 p0 else τ) u (by omega) (by omega) uR (by rw [uf.1 119 (by decide)]; exact h3) (fun j hj => by rw [uf.1 125 (by decide)]; exact h125 j hj) (fun p hp => by
      by_cases g : α 3 s = m
      · rw [if_pos g] at hp
        exact absurd hp tFl_no
      · rw [if_neg g] at hp
        exact hx p hp)
    exact ⟨w, hu.trans hw, wR, fr2_tr uf wf⟩
theorem q_2 (L : List Nat) : mRd L 2 (fun v_2 => if (v_2 116 5) = (0 : Int32) then
              zbindv (fX10_blanks 116 v_2) fun v_13 =>
              zbind (fX10_manHere 116 v_13) fun r_15 v_14 =>
              fX10_clause_285 zFU 116 (nI 3) (v_13 116 4) r_15 (0 : Int32) v_14
            else
              fX10_clause_415 116 (nI 3) v_2) := by
  intro α fl c p v ha hf h hd
  have hS := tFo_2 hf
  have hC := ha.1.2.2.2.1
  have hM := ha.1.2.1
  obtain ⟨u0, hu0, u0R, u0X, u0a, u0k⟩ := p_blanks h
  have u0f := mk_fr u0a u0k
  obtain ⟨u, hu, uR, uf0⟩ := p_manHere u0R hM (by rw [u0f.1 119 (by decide)]; exact hd.1 1 (by decide))
  have uf := fr2_tr u0f uf0
  obtain ⟨h0, h1, h2, h3, h4, h5, h6, h7⟩ := eAc_2 hd ha uf
  have hb := tNum_b (L := L) (a := 0) (b := α 0 1) (τ := .inl p)
  obtain ⟨t, ht, tR, tf⟩ := q_2L (L := L) ha (by omega) (x := nI p) (m := (tNum L 0 (α 0 1) (.inl p)).1) (p0 := p) (by omega) (α 0 3) zFU 0 (tNum L 0 (α 0 1) (.inl p)).2 u (Nat.zero_add _) (by unfold zFU; omega) uR (h0 3 (by decide)) (fun j hj => h3 j hj) (fun _ _ => rfl)
  have ea : ∀ a, a ≠ 125 → zup t 125 (α 0 3) (nI (tNum L 0 (α 0 1) (.inl p)).1) a = t a := fun a g => p_up_a _ _ _ g
  have e125 := up_at t 125 (α 0 3) (nI (tNum L 0 (α 0 1) (.inl p)).1)
  obtain ⟨w, hw, wR, w119, w119n, wa, wk⟩ := p_415 (v := zup t 125 (α 0 3) (nI (tNum L 0 (α 0 1) (.inl p)).1)) (rdM_fr tR (ea 116 (by decide)) (ea 117 (by decide))) (j := 3) (x := α 0 3) (by decide) (by decide) (by rw [ea 119 (by decide), tf.1 119 (by decide)]; exact h0 3 (by decide))
  refine ⟨w, ?_, wR, fun q hq => ?_, fr8_tr (fr8_2 uf) (fr8_tr (fr8_2 tf) (fr8_tr (fr8_a 125 (by omega) ea) (fr8_415 wa wk)))⟩
  · dsimp only
    rw [rdM_0 h, if_pos (show nI 0 = 0 from rfl), hu0, zbindv_some, hu, zbind_some, u0X p rfl]
    exact Eq.trans ht hw
  · obtain ⟨v0, v0n, v3, v3n, vo⟩ := rSt_v L α (.inl p)
    have w3 := w119 (tSg_in hq)
    show eAc (rSt L α (.inl p)).1 (fl || decide (2 = 3)) w
    generalize (rSt L α (.inl p)).1 = β at *
    have wu : ∀ a, a ≠ 116 → a ≠ 119 → a ≠ 125 → w a = u a := fun a g1 g2 g3 => (wa a g1 g2).trans ((ea a g3).trans (tf.1 a g1))
    refine ⟨fun k hk => ?_, fun j hj => ?_, fun m hm => ?_, fun j hj => ?_, fun m hm j hj => ?_, fun k hk j hj => ?_, fun k hk j hj => ?_, ?_⟩
    · by_cases g : k = 3
      · rw [g, w3, v0]
      · rw [w119n k g, ea 119 (by decide), tf.1 119 (by decide), h0 k hk, v0n k g]
    · rw [v0n 0 (by decide)] at hj
      rw [wu 121 (by decide) (by decide) (by decide), vo 1 j (by decide) (by decide)]; exact h1 j hj
    · rw [v0n 1 (by decide)] at hm
      rw [wu 123 (by decide) (by decide) (by decide), vo 2 m (by decide) (by decide)]; exact h2 m hm
    · rw [wa 125 (by decide) (by decide), e125]
      by_cases g : j = α 0 3
      · rw [if_pos g, g, v3]
      · rw [if_neg g, v3n j g, tf.1 125 (by decide)]; exact h3 j (by omega)
    · rw [v0n 1 (by decide)] at hm
      rw [v0n 0 (by decide)] at hj
      rw [wu _ (by omega) (by omega) (by omega), vo (10 + m) j (by omega) (by omega)]; exact h4 m hm j hj
    · rw [v0n 4 (by decide)] at hk
      have := ha.1.2.2.2.2.2.1
      rw [wu _ (by omega) (by omega) (by omega), vo _ _ (by omega) (by omega)]; exact h5 k hk j hj
    · rw [v0n 5 (by decide)] at hk
      have := ha.1.2.2.2.2.2.2
      rw [wu _ (by omega) (by omega) (by omega), vo _ _ (by omega) (by omega)]; exact h6 k hk j hj
    · rw [wk 25 (by decide) (by decide) (by decide), ea 116 (by decide), tf.2 25 (by decide) (by decide) (by decide), h7, show (fl || decide (2 = 3)) = fl from Bool.or_false fl]
theorem q_3 (L : List Nat) : mRd L 3 (fun v_2 => zbind (fX10_number 116 (2 : Int32) (12 : Int32) v_2) fun r_10 v_9 =>
          zix (2 : Int32) (zlen (zrf 116 11)) <|
          zlet (zup v_9 (zrf 116 11) ((2 : Int32)).toNatClampNeg r_10) fun v_11 =>
          zlet (zup v_11 116 25 (1 : Int32)) fun v_12 =>
          fX10_clause_415 116 (nI 2) v_12) := by
  intro α fl c p v ha hf h hd
  obtain ⟨u, hu, uR, uf⟩ := p_mNumber h (okBd_l (a := 2) (b := 12) (by decide) (by decide))
  obtain ⟨h0, h1, h2, h3, h4, h5, h6, h7⟩ := eAc_2 hd ha uf
  have e119 : ∀ k, zup (zup u 119 2 (nI (tNum L 2 13 (.inl p)).1)) 116 25 1 119 k = if k = 2 then nI (tNum L 2 13 (.inl p)).1 else u 119 k := fun k => by rw [p_up_a _ _ _ (by decide), up_at]
  have ea : ∀ a, a ≠ 116 → a ≠ 119 → zup (zup u 119 2 (nI (tNum L 2 13 (.inl p)).1)) 116 25 1 a = u a := fun a g1 g2 => by rw [p_up_a _ _ _ g1, p_up_a _ _ _ g2]
  have ek : ∀ k, k ≠ 25 → zup (zup u 119 2 (nI (tNum L 2 13 (.inl p)).1)) 116 25 1 116 k = u 116 k := fun k g => by rw [p_up_n _ _ (Or.inr g), p_up_a _ _ _ (by decide)]
  have e25 : zup (zup u 119 2 (nI (tNum L 2 13 (.inl p)).1)) 116 25 1 116 25 = 1 := p_up_s _ _ _ _
  have yR : rdM L (tNum L 2 13 (.inl p)).2 (zup (zup u 119 2 (nI (tNum L 2 13 (.inl p)).1)) 116 25 1) := by
    obtain ⟨⟨k1, k2, k3⟩, p0, k4, k5, k6⟩ := uR
    refine ⟨⟨k1, by rw [ek 2 (by decide)]; exact k2, fun i hi => by rw [ea 117 (by decide) (by decide)]; exact k3 i hi⟩, p0, k4, by rw [ek 4 (by decide)]; exact k5, ?_⟩
    rw [ek 5 (by decide), ek 6 (by decide)]
    exact k6
  have hy : (zlet (zup u 119 2 (nI (tNum L 2 13 (.inl p)).1)) fun v_11 => zlet (zup v_11 116 25 (1 : Int32)) fun v_12 => fX10_clause_415 116 (nI 2) v_12) = fX10_clause_415 116 (nI 2) (zup (zup u 119 2 (nI (tNum L 2 13 (.inl p)).1)) 116 25 1) := rfl
  generalize zup (zup u 119 2 (nI (tNum L 2 13 (.inl p)).1)) 116 25 1 = y at e119 ea ek e25 yR hy
  obtain ⟨w, hw, wR, wf⟩ := p_mSign yR (c := 59) (by decide)
  refine ⟨w, ?_, wR, fun q hq => ?_, fr8_tr (fr8_2 uf) (fr8_tr ⟨fun a g => ea a g.1 g.2.1, fun k _ _ _ g => ek k g⟩ (fr8_2 wf))⟩
  · dsimp only
    have c2 : (2 : Int32).toNatClampNeg = 2 := rfl
    have z2 : ∀ k : Option zV, zix (2 : Int32) 6 k = k := fun k => rfl
    rw [rx_11, lR.1, c2]
    have hu2 : fX10_number 116 2 12 v = some (nI (tNum L 2 13 (.inl p)).1, u) := hu
    rw [hu2, zbind_some, z2, hy]
    unfold fX10_clause_415
    rw [if_pos (show nI 2 = 2 from rfl), show (59 : Int32) = nI 59 from rfl, hw, zbindv_some]
  · obtain ⟨v2, v0n, vo⟩ := rCh_v L α (.inl p)
    show eAc (rCh L α (.inl p)).1 (fl || decide (3 = 3)) w
    generalize (rCh L α (.inl p)).1 = β at *
    have wu : ∀ a, a ≠ 116 → a ≠ 119 → w a = u a := fun a g1 g2 => (wf.1 a g1).trans (ea a g1 g2)
    refine ⟨fun k hk => ?_, fun j hj => ?_, fun m hm => ?_, fun j hj => ?_, fun m hm j hj => ?_, fun k hk j hj => ?_, fun k hk j hj => ?_, ?_⟩
    · rw [wf.1 119 (by decide), e119]
      by_cases g : k = 2
      · rw [if_pos g, g, v2]
      · rw [if_neg g, h0 k hk, v0n k g]
    · rw [v0n 0 (by decide)] at hj
      rw [wu 121 (by decide) (by decide), vo 1 j (by decide)]; exact h1 j hj
    · rw [v0n 1 (by decide)] at hm
      rw [wu 123 (by decide) (by decide), vo 2 m (by decide)]; exact h2 m hm
    · rw [v0n 3 (by decide)] at hj
      rw [wu 125 (by decide) (by decide), vo 3 j (by decide)]; exact h3 j hj
    · rw [v0n 1 (by decide)] at hm
      rw [v0n 0 (by decide)] at hj
      rw [wu _ (by omega) (by omega), vo (10 + m) j (by omega)]; exact h4 m hm j hj
    · rw [v0n 4 (by decide)] at hk
      rw [wu _ (by omega) (by omega), vo _ _ (by omega)]; exact h5 k hk j hj
    · rw [v0n 5 (by decide)] at hk
      rw [wu _ (by omega) (by omega), vo _ _ (by omega)]; exact h6 k hk j hj
    · rw [wf.2 25 (by decide) (by decide) (by decide), e25, show (fl || decide (3 = 3)) = true from Bool.or_true fl]
      rfl
theorem q_4 (L : List Nat) : mRd L 4 (fun v_2 => zix (4 : Int32) (zlen (zrf 116 11)) <|
              zix (v_2 (zrf 116 11) ((4 : Int32)).toNatClampNeg) (zlen (zrf 116 21)) <|
              zbind (fX10_number 116 (1 : Int32) (60 : Int32) v_2) fun r_17 v_16 =>
              zix (0 : Int32) (zlen (zrf (zrf 116 21) (v_2 (zrf 116 11) ((4 : Int32)).toNatClampNeg).toNatClampNeg)) <|
              zlet (zup v_16 (zrf (zrf 116 21) (v_2 (zrf 116 11) ((4 : Int32)).toNatClampNeg).toNatClampNeg) ((0 : Int32)).toNatClampNeg r_17) fun v_18 =>
              zbind (fX10_manHere 116 v_18) fun r_20 v_19 =>
              zix (1 : Int32) (zlen (zrf (zrf 116 21) (v_2 (zrf 116 11) ((4 : Int32)).toNatClampNeg).toNatClampNeg)) <|
              zlet (zup v_19 (zrf (zrf 116 21) (v_2 (zrf 116 11) ((4 : Int32)).toNatClampNeg).toNatClampNeg) ((1 : Int32)).toNatClampNeg r_20) fun v_21 =>
              fX10_clause_415 116 (nI 4) v_21) := by
  intro α fl c p v ha hf h hd
  have hK := tFo_4 hf
  have hM := ha.1.2.1
  obtain ⟨u, hu, uR, uf⟩ := p_mNumber h (okBd_l (a := 1) (b := 60) (by decide) (by decide))
  have hd1 := eAc_2 hd ha uf
  have f1 : ∀ a, a ≠ 162 + α 0 4 → zup u (162 + α 0 4) 0 (nI (tNum L 1 61 (.inl p)).1) a = u a := fun a g => p_up_a _ _ _ g
  obtain ⟨t, ht, tR, tf⟩ := p_manHere (L := L) (τ := (tNum L 1 61 (.inl p)).2) (v := zup u (162 + α 0 4) 0 (nI (tNum L 1 61 (.inl p)).1)) (rdM_fr uR (f1 116 (by omega)) (f1 117 (by omega))) hM (by rw [f1 119 (by omega)]; exact hd1.1 1 (by decide))
  have f2 : ∀ a, a ≠ 162 + α 0 4 → zup t (162 + α 0 4) 1 (nI (tNum L 0 (α 0 1) (tNum L 1 61 (.inl p)).2).1) a = t a := fun a g => p_up_a _ _ _ g
  have tu : ∀ a, a ≠ 116 → a ≠ 162 + α 0 4 → t a = u a := fun a g1 g2 => (tf.1 a g1).trans (f1 a g2)
  have e0 : zup t (162 + α 0 4) 1 (nI (tNum L 0 (α 0 1) (tNum L 1 61 (.inl p)).2).1) (162 + α 0 4) 0 = nI (tNum L 1 61 (.inl p)).1 := by rw [p_up_n _ _ (Or.inr (by decide)), tf.1 _ (by omega), p_up_s]
  have e1 : zup t (162 + α 0 4) 1 (nI (tNum L 0 (α 0 1) (tNum L 1 61 (.inl p)).2).1) (162 + α 0 4) 1 = nI (tNum L 0 (α 0 1) (tNum L 1 61 (.inl p)).2).1 := p_up_s _ _ _ _
  obtain ⟨h0, h1, h2, h3, h4, h5, h6, h7⟩ := hd1
  obtain ⟨w, hw, wR, w119, w119n, wa, wk⟩ := p_415 (v := zup t (162 + α 0 4) 1 (nI (tNum L 0 (α 0 1) (tNum L 1 61 (.inl p)).2).1)) (rdM_fr tR (f2 116 (by omega)) (f2 117 (by omega))) (j := 4) (x := α 0 4) (by decide) (by decide) (by rw [f2 119 (by omega), tu 119 (by decide) (by omega)]; exact h0 4 (by decide))
  refine ⟨w, ?_, wR, fun q hq => ?_, fr8_tr (fr8_2 uf) (fr8_tr (fr8_a (162 + α 0 4) (by omega) f1) (fr8_tr (fr8_2 tf) (fr8_tr (fr8_a (162 + α 0 4) (by omega) f2) (fr8_415 wa wk))))⟩
  · dsimp only
    have v4 : v 119 4 = nI (α 0 4) := hd.1 4 (by decide)
    have c4 : (4 : Int32).toNatClampNeg = 4 := rfl
    have c0 : (0 : Int32).toNatClampNeg = 0 := rfl
    have c1 : (1 : Int32).toNatClampNeg = 1 := rfl
    have z4 : ∀ k : Option zV, zix (4 : Int32) 6 k = k := fun k => rfl
    have z0 : ∀ k : Option zV, zix (0 : Int32) 2 k = k := fun k => rfl
    have z1 : ∀ k : Option zV, zix (1 : Int32) 2 k = k := fun k => rfl
    have r1 := rfa_161 (α 0 4) hK
    have r2 := lna_161 (α 0 4) hK
    have hu2 : fX10_number 116 1 60 v = some (nI (tNum L 1 61 (.inl p)).1, u) := hu
    rw [rx_11, lR.1, z4, c4, v4, rx_21, lR.2.2.2.2.2.1, zix_nI hK (by omega), nI_cl' (by omega), r1, r2, hu2, zbind_some, z0, c0, zlet_eq, ht, zbind_some, z1, c1, zlet_eq]
    exact hw
  · obtain ⟨v0, v0n, vy, vm, vo⟩ := rDe_v L α (.inl p)
    have w4 := w119 (tSg_in hq)
    show eAc (rDe L α (.inl p)).1 (fl || decide (4 = 3)) w
    generalize (rDe L α (.inl p)).1 = β at *
    have wu : ∀ a, a ≠ 116 → a ≠ 119 → a ≠ 162 + α 0 4 → w a = u a := fun a g1 g2 g3 => (wa a g1 g2).trans ((f2 a g3).trans (tu a g1 g3))
    refine ⟨fun k hk => ?_, fun j hj => ?_, fun m hm => ?_, fun j hj => ?_, fun m hm j hj => ?_, fun k hk j hj => ?_, fun k hk j hj => ?_, ?_⟩
    · by_cases g : k = 4
      · rw [g, w4, v0]
      · rw [w119n k g, f2 119 (by omega), tu 119 (by decide) (by omega), h0 k hk, v0n k g]
    · rw [v0n 0 (by decide)] at hj
      rw [wu 121 (by decide) (by decide) (by omega), vo 1 j (by decide) (by omega)]; exact h1 j hj
    · rw [v0n 1 (by decide)] at hm
      rw [wu 123 (by decide) (by decide) (by omega), vo 2 m (by decide) (by omega)]; exact h2 m hm
    · rw [v0n 3 (by decide)] at hj
      rw [wu 125 (by decide) (by decide) (by omega), vo 3 j (by decide) (by omega)]; exact h3 j hj
    · rw [v0n 1 (by decide)] at hm
      rw [v0n 0 (by decide)] at hj
      rw [wu _ (by omega) (by omega) (by omega), vo (10 + m) j (by omega) (by omega)]; exact h4 m hm j hj
    · by_cases g : k = α 0 4
      · rw [g, wa _ (by omega) (by omega)]
        have : j = 0 ∨ j = 1 := by omega
        rcases this with rfl | rfl
        · rw [e0, vy]
        · rw [e1, vm]
      · have := ha.1.2.2.2.2.2.1
        rw [wu _ (by omega) (by omega) (by omega), vo (30 + k) j (by omega) (by omega)]; exact h5 k (by omega) j hj
    · rw [v0n 5 (by decide)] at hk
      have := ha.1.2.2.2.2.2.2
      rw [wu _ (by omega) (by omega) (by omega), vo _ _ (by omega) (by omega)]; exact h6 k hk j hj
    · rw [wk 25 (by decide) (by decide) (by decide), f2 116 (by omega), tf.2 25 (by decide) (by decide) (by decide), f1 116 (by omega), h7, show (fl || decide (4 = 3)) = fl from Bool.or_false fl]
theorem q_5 (L : List Nat) : mRd L 5 (fun v_2 => zix (5 : Int32) (zlen (zrf 116 11)) <|
              zix (v_2 (zrf 116 11) ((5 : Int32)).toNatClampNeg) (zlen (zrf 116 23)) <|
              zbind (fX10_number 116 (1 : Int32) (60 : Int32) v_2) fun r_23 v_22 =>
              zix (0 : Int32) (zlen (zrf (zrf 116 23) (v_2 (zrf 116 11) ((5 : Int32)).toNatClampNeg).toNatClampNeg)) <|
              zlet (zup v_22 (zrf (zrf 116 23) (v_2 (zrf 116 11) ((5 : Int32)).toNatClampNeg).toNatClampNeg) ((0 : Int32)).toNatClampNeg r_23) fun v_24 =>
              zbind (fX10_manHere 116 v_24) fun r_26 v_25 =>
              zix (1 : Int32) (zlen (zrf (zrf 116 23) (v_2 (zrf 116 11) ((5 : Int32)).toNatClampNeg).toNatClampNeg)) <|
              zlet (zup v_25 (zrf (zrf 116 23) (v_2 (zrf 116 11) ((5 : Int32)).toNatClampNeg).toNatClampNeg) ((1 : Int32)).toNatClampNeg r_26) fun v_27 =>
              zbind (fX10_number 116 (1 : Int32) (99 : Int32) v_27) fun r_29 v_28 =>
              zix (2 : Int32) (zlen (zrf (zrf 116 23) (v_2 (zrf 116 11) ((5 : Int32)).toNatClampNeg).toNatClampNeg)) <|
              zlet (zup v_28 (zrf (zrf 116 23) (v_2 (zrf 116 11) ((5 : Int32)).toNatClampNeg).toNatClampNeg) ((2 : Int32)).toNatClampNeg r_29) fun v_30 =>
              fX10_clause_415 116 (nI 5) v_30) := by
  intro α fl c p v ha hf h hd
  have hK := tFo_5 hf
  have hM := ha.1.2.1
  have hD12 := ha.1.2.2.2.2.2.1
  obtain ⟨u, hu, uR, uf⟩ := p_mNumber h (okBd_l (a := 1) (b := 60) (by decide) (by decide))
  have hd1 := eAc_2 hd ha uf
  have f1 : ∀ a, a ≠ 188 + α 0 5 → zup u (188 + α 0 5) 0 (nI (tNum L 1 61 (.inl p)).1) a = u a := fun a g => p_up_a _ _ _ g
  obtain ⟨t, ht, tR, tf⟩ := p_manHere (L := L) (τ := (tNum L 1 61 (.inl p)).2) (v := zup u (188 + α 0 5) 0 (nI (tNum L 1 61 (.inl p)).1)) (rdM_fr uR (f1 116 (by omega)) (f1 117 (by omega))) hM (by rw [f1 119 (by omega)]; exact hd1.1 1 (by decide))
  have f2 : ∀ a, a ≠ 188 + α 0 5 → zup t (188 + α 0 5) 1 (nI (tNum L 0 (α 0 1) (tNum L 1 61 (.inl p)).2).1) a = t a := fun a g => p_up_a _ _ _ g
  have tu : ∀ a, a ≠ 116 → a ≠ 188 + α 0 5 → t a = u a := fun a g1 g2 => (tf.1 a g1).trans (f1 a g2)
  have t0 : t (188 + α 0 5) 0 = nI (tNum L 1 61 (.inl p)).1 := by rw [tf.1 _ (by omega), p_up_s]
  obtain ⟨s, hs, sR, sf⟩ := p_mNumber (L := L) (τ := (tNum L 0 (α 0 1) (tNum L 1 61 (.inl p)).2).2) (v := zup t (188 + α 0 5) 1 (nI (tNum L 0 (α 0 1) (tNum L 1 61 (.inl p)).2).1)) (rdM_fr tR (f2 116 (by omega)) (f2 117 (by omega))) (okBd_l (a := 1) (b := 99) (by decide) (by decide))
  have f3 : ∀ a, a ≠ 188 + α 0 5 → zup s (188 + α 0 5) 2 (nI (tNum L 1 100 (tNum L 0 (α 0 1) (tNum L 1 61 (.inl p)).2).2).1) a = s a := fun a g => p_up_a _ _ _ g
  have su : ∀ a, a ≠ 116 → a ≠ 188 + α 0 5 → s a = u a := fun a g1 g2 => (sf.1 a g1).trans ((f2 a g2).trans (tu a g1 g2))
  have e0 : zup s (188 + α 0 5) 2 (nI (tNum L 1 100 (tNum L 0 (α 0 1) (tNum L 1 61 (.inl p)).2).2).1) (188 + α 0 5) 0 = nI (tNum L 1 61 (.inl p)).1 := by rw [p_up_n _ _ (Or.inr (by decide)), sf.1 _ (by omega), p_up_n _ _ (Or.inr (by decide)), t0]
  have e1 : zup s (188 + α 0 5) 2 (nI (tNum L 1 100 (tNum L 0 (α 0 1) (tNum L 1 61 (.inl p)).2).2).1) (188 + α 0 5) 1 = nI (tNum L 0 (α 0 1) (tNum L 1 61 (.inl p)).2).1 := by rw [p_up_n _ _ (Or.inr (by decide)), sf.1 _ (by omega), p_up_s]
  have e2 : zup s (188 + α 0 5) 2 (nI (tNum L 1 100 (tNum L 0 (α 0 1) (tNum L 1 61 (.inl p)).2).2).1) (188 + α 0 5) 2 = nI (tNum L 1 100 (tNum L 0 (α 0 1) (tNum L 1 61 (.inl p)).2).2).1 := p_up_s _ _ _ _
  obtain ⟨h0, h1, h2, h3, h4, h5, h6, h7⟩ := hd1
  obtain ⟨w, hw, wR, w119, w119n, wa, wk⟩ := p_415 (v := zup s (188 + α 0 5) 2 (nI (tNum L 1 100 (tNum L 0 (α 0 1) (tNum L 1 61 (.inl p)).2).2).1)) (rdM_fr sR (f3 116 (by omega)) (f3 117 (by omega))) (j := 5) (x := α 0 5) (by decide) (by decide) (by rw [f3 119 (by omega), su 119 (by decide) (by omega)]; exact h0 5 (by decide))
  refine ⟨w, ?_, wR, fun q hq => ?_, fr8_tr (fr8_2 uf) (fr8_tr (fr8_a (188 + α 0 5) (by omega) f1) (fr8_tr (fr8_2 tf) (fr8_tr (fr8_a (188 + α 0 5) (by omega) f2) (fr8_tr (fr8_2 sf) (fr8_tr (fr8_a (188 + α 0 5) (by omega) f3) (fr8_415 wa wk))))))⟩
  · dsimp only
    have v5 : v 119 5 = nI (α 0 5) := hd.1 5 (by decide)
    have c5 : (5 : Int32).toNatClampNeg = 5 := rfl
    have c0 : (0 : Int32).toNatClampNeg = 0 := rfl
    have c1 : (1 : Int32).toNatClampNeg = 1 := rfl
    have c2 : (2 : Int32).toNatClampNeg = 2 := rfl
    have z5 : ∀ k : Option zV, zix (5 : Int32) 6 k = k := fun k => rfl
    have z0 : ∀ k : Option zV, zix (0 : Int32) 3 k = k := fun k => rfl
    have z1 : ∀ k : Option zV, zix (1 : Int32) 3 k = k := fun k => rfl
    have z2 : ∀ k : Option zV, zix (2 : Int32) 3 k = k := fun k => rfl
    have r1 := rfa_187 (α 0 5) hK
    have r2 := lna_187 (α 0 5) hK
    have hu2 : fX10_number 116 1 60 v = some (nI (tNum L 1 61 (.inl p)).1, u) := hu
    rw [rx_11, lR.1, z5, c5, v5, rx_23, lR.2.2.2.2.2.2, zix_nI hK (by omega), nI_cl' (by omega), r1, r2, hu2, zbind_some, z0, c0, zlet_eq, ht, zbind_some, z1, c1, zlet_eq]
    have hs2 : fX10_number 116 1 99 (zup t (188 + α 0 5) 1 (nI (tNum L 0 (α 0 1) (tNum L 1 61 (.inl p)).2).1)) = some (nI (tNum L 1 100 (tNum L 0 (α 0 1) (tNum L 1 61 (.inl p)).2).2).1, s) := hs
    rw [hs2, zbind_some, z2, c2, zlet_eq]
    exact hw
  · obtain ⟨v0, v0n, vy, vm, vz, vo⟩ := rPr_v L α (.inl p)
    have w5 := w119 (tSg_in hq)
    show eAc (rPr L α (.inl p)).1 (fl || decide (5 = 3)) w
    generalize (rPr L α (.inl p)).1 = β at *
    have wu : ∀ a, a ≠ 116 → a ≠ 119 → a ≠ 188 + α 0 5 → w a = u a := fun a g1 g2 g3 => (wa a g1 g2).trans ((f3 a g3).trans (su a g1 g3))
    refine ⟨fun k hk => ?_, fun j hj => ?_, fun m hm => ?_, fun j hj => ?_, fun m hm j hj => ?_, fun k hk j hj => ?_, fun k hk j hj => ?_, ?_⟩
    · by_cases g : k = 5
      · rw [g, w5, v0]
      · rw [w119n k g, f3 119 (by omega), su 119 (by decide) (by omega), h0 k hk, v0n k g]
    · rw [v0n 0 (by decide)] at hj
      rw [wu 121 (by decide) (by decide) (by omega), vo 1 j (by decide) (by omega)]; exact h1 j hj
    · rw [v0n 1 (by decide)] at hm
      rw [wu 123 (by decide) (by decide) (by omega), vo 2 m (by decide) (by omega)]; exact h2 m hm
    · rw [v0n 3 (by decide)] at hj
      rw [wu 125 (by decide) (by decide) (by omega), vo 3 j (by decide) (by omega)]; exact h3 j hj
    · rw [v0n 1 (by decide)] at hm
      rw [v0n 0 (by decide)] at hj
      rw [wu _ (by omega) (by omega) (by omega), vo (10 + m) j (by omega) (by omega)]; exact h4 m hm j hj
    · rw [v0n 4 (by decide)] at hk
      rw [wu _ (by omega) (by omega) (by omega), vo _ _ (by omega) (by omega)]; exact h5 k hk j hj
    · by_cases g : k = α 0 5
      · rw [g, wa _ (by omega) (by omega)]
        have : j = 0 ∨ j = 1 ∨ j = 2 := by omega
        rcases this with rfl | rfl | rfl
        · rw [e0, vy]
        · rw [e1, vm]
        · rw [e2, vz]
      · have := ha.1.2.2.2.2.2.2
        rw [wu _ (by omega) (by omega) (by omega), vo (50 + k) j (by omega) (by omega)]; exact h6 k (by omega) j hj
    · rw [wk 25 (by decide) (by decide) (by decide), f3 116 (by omega), sf.2 25 (by decide) (by decide) (by decide), f2 116 (by omega), tf.2 25 (by decide) (by decide) (by decide), f1 116 (by omega), h7, show (fl || decide (5 = 3)) = fl from Bool.or_false fl]
end
