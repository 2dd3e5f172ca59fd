/-! ACADEMY: the class reads it -/
section
def dAc (α : sA) (fl : Bool) (v : zV) : Prop := pCA 13 v α ∧ v 13 6 = if fl = true then nI 1 else nI 0
def fr7 (v w : zV) : Prop := (∀ a, a ≠ 1 → (a < 13 ∨ 22 < a) → w a = v a) ∧ ∀ k, k ≠ 2 → k ≠ 3 → k ≠ 5 → w 1 k = v 1 k
theorem fr7_tr {v w u : zV} (h1 : fr7 v w) (h2 : fr7 w u) : fr7 v u := ⟨fun a g1 g2 => (h2.1 a g1 g2).trans (h1.1 a g1 g2), fun k g1 g2 g3 => (h2.2 k g1 g2 g3).trans (h1.2 k g1 g2 g3)⟩
theorem fr7_1 {v w : zV} (h : fr1 v w) : fr7 v w := ⟨fun a g _ => h.1 a g, h.2⟩
theorem fr7_up {v w : zV} (h : ∀ a, (a < 13 ∨ 22 < a) → w a = v a) : fr7 v w := ⟨fun a _ g => h a g, fun k _ _ _ => by rw [h 1 (by decide)]⟩
theorem rdC_7 {L : List Nat} {τ : rdE} {v w : zV} (h : rdC L τ v) (e : ∀ a, (a < 13 ∨ 22 < a) → w a = v a) : rdC L τ w := rdC_fr h (e 1 (by decide)) (e 2 (by decide))
theorem dAc_1 {α : sA} {fl : Bool} {v w : zV} (h : dAc α fl v) (e : fr1 v w) : dAc α fl w := ⟨CA_fr h.1 (fun a g1 g2 => e.1 a (by omega)), by rw [e.1 13 (by decide)]; exact h.2⟩
theorem rA7 : zrf 13 7 = 14 := by decide +kernel
theorem rA8 : zrf 13 8 = 15 := by decide +kernel
theorem rA9 : zrf 13 9 = 16 := by decide +kernel
theorem rA10 : zrf 13 10 = 17 := by decide +kernel
theorem rA11 : zrf 13 11 = 18 := by decide +kernel
theorem rA12 : zrf 13 12 = 19 := by decide +kernel
theorem rA13 : zrf 13 13 = 20 := by decide +kernel
theorem rA14 : zrf 13 14 = 21 := by decide +kernel
theorem rA15 : zrf 13 15 = 22 := by decide +kernel
theorem lA : zlen 14 = 6 ∧ zlen 15 = 16 ∧ zlen 16 = 16 ∧ zlen 17 = 12 ∧ zlen 18 = 12 ∧ zlen 19 = 12 ∧ zlen 20 = 12 ∧ zlen 21 = 12 ∧ zlen 22 = 12 := by decide +kernel
def cRd (L : List Nat) (k : Nat) (f : zV → Option zV) : Prop := ∀ (α : sA) (fl : Bool) (c : Nat) (τ : rdE) (v : zV), okA α → tFo α fl c k = 0 → rdC L τ v → dAc α fl v → ∃ w, f v = some w ∧ rdC L (rdA L k α τ).2 w ∧ (∀ q, (rdA L k α τ).2 = .inl q → dAc (rdA L k α τ).1 (fl || decide (k = 3)) w) ∧ fr7 v w
theorem tFo_c {α : sA} {fl : Bool} {c k : Nat} (h : tFo α fl c k = 0) : ¬ 60 ≤ c := fun z => by unfold tFo at h; rw [if_pos z] at h; cases h
theorem tFo_0 {α : sA} {fl : Bool} {c : Nat} (h : tFo α fl c 0 = 0) : α 0 0 < 6 ∧ α 0 1 = 0 := by
  have hc := tFo_c h
  unfold tFo at h
  rw [if_neg hc, if_pos rfl] at h
  by_cases g : 6 ≤ α 0 0
  · rw [if_pos g] at h; cases h
  · rw [if_neg g] at h
    by_cases g2 : 0 < α 0 1
    · rw [if_pos g2] at h; cases h
    · omega
theorem tFo_1 {α : sA} {fl : Bool} {c : Nat} (h : tFo α fl c 1 = 0) : α 0 1 < 16 := by
  have hc := tFo_c h
  unfold tFo at h
  rw [if_neg hc, if_neg (by decide), if_pos rfl] at h
  by_cases g : 16 ≤ α 0 1
  · rw [if_pos g] at h; cases h
  · omega
theorem tFo_2 {α : sA} {fl : Bool} {c : Nat} (h : tFo α fl c 2 = 0) : α 0 3 < α 0 2 := by
  have hc := tFo_c h
  unfold tFo at h
  rw [if_neg hc, if_neg (by decide), if_neg (by decide), if_pos rfl] at h
  by_cases g : α 0 2 ≤ α 0 3
  · rw [if_pos g] at h; cases h
  · omega
theorem tFo_4 {α : sA} {fl : Bool} {c : Nat} (h : tFo α fl c 4 = 0) : α 0 4 < 12 := by
  have hc := tFo_c h
  unfold tFo at h
  rw [if_neg hc, if_neg (by decide), if_neg (by decide), if_neg (by decide), if_neg (by decide), if_pos rfl] at h
  by_cases g : 12 ≤ α 0 4
  · rw [if_pos g] at h; cases h
  · omega
theorem tFo_5 {α : sA} {fl : Bool} {c : Nat} (h : tFo α fl c 5 = 0) : α 0 5 < 12 := by
  have hc := tFo_c h
  unfold tFo at h
  rw [if_neg hc, if_neg (by decide), if_neg (by decide), if_neg (by decide), if_neg (by decide), if_neg (by decide)] at h
  by_cases g : 12 ≤ α 0 5
  · rw [if_pos g] at h; cases h
  · omega
theorem p_question (L : List Nat) : cRd L 0 (fX0_readQuestion 13 1) := by
  intro α fl c τ v ha hf h hd
  obtain ⟨hQ, hM⟩ := tFo_0 hf
  obtain ⟨r, u, hu, uR, hr, uf⟩ := p_number h (okBd_l (a := 2) (b := 3) (by decide) (by decide))
  obtain ⟨⟨⟨d0, d1, d2, d3, d4, d5⟩, ds, da, dc, dt, dd, dp⟩, d6⟩ := dAc_1 hd uf
  have ea : ∀ a, a ≠ 13 → a ≠ 14 → zup (zup u 14 (α 0 0) r) 13 0 (nI (α 0 0 + 1)) a = u a := fun a g1 g2 => by rw [p_up_a _ _ _ g1, p_up_a _ _ _ g2]
  have e13 : ∀ j, j ≠ 0 → zup (zup u 14 (α 0 0) r) 13 0 (nI (α 0 0 + 1)) 13 j = u 13 j := fun j g => by rw [p_up_n _ _ (Or.inr g), p_up_a _ _ _ (by decide)]
  have e130 : zup (zup u 14 (α 0 0) r) 13 0 (nI (α 0 0 + 1)) 13 0 = nI (α 0 0 + 1) := p_up_s _ _ _ _
  have e14 : ∀ j, zup (zup u 14 (α 0 0) r) 13 0 (nI (α 0 0 + 1)) 14 j = if j = α 0 0 then r else u 14 j := fun j => by
    rw [p_up_a _ _ _ (by decide), p_up]
    by_cases g : j = α 0 0
    · rw [if_pos ⟨rfl, g⟩, if_pos g]
    · rw [if_neg (fun z => g z.2), if_neg g]
  have hz : fX0_readQuestion 13 1 v = some (zup (zup u 14 (α 0 0) r) 13 0 (nI (α 0 0 + 1))) := by
    unfold fX0_readQuestion
    rw [show (2 : Int32) = nI 2 from rfl, show (3 : Int32) = nI 3 from rfl, hu, zbind_some, rA7, hd.1.1.1, p_set (by rw [lA.1]; exact hQ), zbindv_some, p_up_a _ _ _ (show (13 : Nat) ≠ 14 by decide), d0, zlet_eq, show (nI (α 0 0) + 1 : Int32) = nI (α 0 0 + 1) from nI_add _ 1]
  generalize zup (zup u 14 (α 0 0) r) 13 0 (nI (α 0 0 + 1)) = w at ea e13 e130 e14 hz
  have ew : ∀ a, (a < 13 ∨ 22 < a) → w a = u a := fun a g => ea a (by omega) (by omega)
  refine ⟨w, hz, rdC_7 uR ew, fun q hq => ?_, fr7_tr (fr7_1 uf) (fr7_up ew)⟩
  have hx := hr q hq
  obtain ⟨v0, v0n, v1, v1n, v2⟩ := rQ_v L α τ
  show dAc (rQ L α τ).1 (fl || decide (0 = 3)) w
  generalize (rQ L α τ).1 = β at *
  refine ⟨⟨⟨by rw [e130, v0], by rw [e13 1 (by decide), d1, v0n 1 (by decide)], by rw [e13 2 (by decide), d2, v0n 2 (by decide)], by rw [e13 3 (by decide), d3, v0n 3 (by decide)], by rw [e13 4 (by decide), d4, v0n 4 (by decide)], by rw [e13 5 (by decide), d5, v0n 5 (by decide)]⟩, fun j hj => ?_, fun m hm => ?_, fun m hm => ?_, fun m hm => ?_, fun k hk => ?_, fun k hk => ?_⟩, ?_⟩
  · rw [e14]
    by_cases g : j = α 0 0
    · rw [if_pos g, g, v1]; exact hx
    · rw [if_neg g, v1n j g]; exact ds j (by omega)
  · rw [v0n 1 (by decide)] at hm; omega
  · rw [v0n 1 (by decide)] at hm; omega
  · rw [v0n 3 (by decide)] at hm
    rw [ea 17 (by decide) (by decide), v2 3 m (by decide)]; exact dt m hm
  · rw [v0n 4 (by decide)] at hk
    rw [ea 18 (by decide) (by decide), ea 19 (by decide) (by decide), v2 _ _ (by omega), v2 _ _ (by omega)]; exact dd k hk
  · rw [v0n 5 (by decide)] at hk
    rw [ea 20 (by decide) (by decide), ea 21 (by decide) (by decide), ea 22 (by decide) (by decide), v2 _ _ (by omega), v2 _ _ (by omega), v2 _ _ (by omega)]; exact dp k hk
  · rw [e13 6 (by decide), d6, show (fl || decide (0 = 3)) = fl from Bool.or_false fl]
theorem sCF_or {B : Nat → Nat} {q x : Nat} (hB : ∀ i, i < q → B i < 4) (hq : q < 6) (hx : x < 4) : nI (sCF B q) ||| (nI x <<< (((2 : Int32) * nI q) &&& 31)) = nI (sCF (sUp B q x) (q + 1)) := by
  have hlt := sCF_lt q hB
  have e4 : (4 : Nat) ^ q = 2 ^ (2 * q) := by rw [Nat.pow_mul]
  rw [show ((2 : Int32) * nI q) = (2 * nI q) from rfl, shl2 hq hx, nI_or, sCF, sUp_s, sCF_cg q (f := sUp B q x) (g := B) (fun i hi => sUp_n _ _ (by omega))]
  congr 1
  rw [e4] at hlt ⊢
  have := Nat.two_pow_add_eq_or_of_lt hlt x
  rw [Nat.or_comm, Nat.mul_comm x, ← this, Nat.add_comm]
theorem p_manL {L : List Nat} {α : sA} (ha : okA α) : ∀ (d n q : Nat) (B : Nat → Nat) (τ : rdE) (code : Int32) (v : zV), q + d = α 0 0 → d < n → rdC L τ v → v 13 0 = nI (α 0 0) → (∀ j, j < α 0 0 → v 14 j = nI (α 1 j)) → (∀ p, τ = .inl p → code = nI (sCF B q) ∧ ∀ i, i < q → B i < 4) → ∃ w code', fX0_readMan_22 n 13 1 code (nI q) v = fX0_readMan_58 13 code' w ∧ rdC L (tBe L (α 1) d q B τ).2 w ∧ (∀ z, (tBe L (α 1) d q B τ).2 = .inl z → code' = nI (sCF (tBe L (α 1) d q B τ).1 (α 0 0))) ∧ fr1 v w := by
  have hQ := ha.1.1
  intro d
  induction d with
  | zero =>
    intro n q B τ code v e hn h h0 h14 hc
    obtain ⟨n, rfl⟩ : ∃ k, n = k + 1 := ⟨n - 1, by omega⟩
    refine ⟨v, code, ?_, h, fun z hz => ?_, fr1_rf v⟩
    · rw [fX0_readMan_22]
      dsimp only
      rw [h0, if_pos (leY (by omega) (by omega) (by omega))]
    · rw [(hc z hz).1, show q = α 0 0 by omega]
      rfl
  | succ d ih =>
    intro n q B τ code v e hn h h0 h14 hc
    obtain ⟨n, rfl⟩ : ∃ k, n = k + 1 := ⟨n - 1, by omega⟩
    have h1 := ha.2.1 q (by omega)
    obtain ⟨r, u, hu, uR, hr, uf⟩ := p_number h (okBd_n (b := α 1 q) (by omega))
    obtain ⟨w, code', hw, wR, wc, wf⟩ := ih n (q + 1) (sUp B q (tNum L 0 (α 1 q) τ).1) (tNum L 0 (α 1 q) τ).2 (code ||| (r <<< (((2 : Int32) * nI q) &&& 31))) u (by omega) (by omega) uR (by rw [uf.1 13 (by decide)]; exact h0) (fun j hj => by rw [uf.1 14 (by decide)]; exact h14 j hj) (fun p hp => by
      obtain ⟨-, x3, p', ep, -⟩ := tNum_ok hp
      obtain ⟨c1, c2⟩ := hc p' ep
      refine ⟨?_, fun i hi => ?_⟩
      · rw [c1, hr p hp]
        exact sCF_or c2 (by omega) (by omega)
      · by_cases g : i = q
        · rw [g, sUp_s]; omega
        · rw [sUp_n _ _ g]; exact c2 i (by omega))
    refine ⟨w, code', ?_, wR, wc, fr1_tr uf wf⟩
    rw [fX0_readMan_22]
    dsimp only
    rw [h0, if_neg (leN (by omega) (by omega) (by omega)), rA7, p_get (by rw [lA.1]; omega), zbind_some, h14 q (by omega), hu, zbind_some, show (nI q + 1 : Int32) = nI (q + 1) from nI_add _ 1]
    exact hw
theorem p_manR (L : List Nat) : cRd L 1 (fX0_readMan 13 1) := by
  intro α fl c τ v ha hf h hd
  have hM := tFo_1 hf
  have hQ := ha.1.1
  obtain ⟨r, u, hu, uR, hr, uf⟩ := p_number h (okBd_l (a := 0) (b := 99) (by decide) (by decide))
  obtain ⟨⟨⟨d0, d1, d2, d3, d4, d5⟩, ds, da, dc, dt, dd, dp⟩, d6⟩ := dAc_1 hd uf
  have f15 : ∀ a, a ≠ 15 → zup u 15 (α 0 1) r a = u a := fun a g => p_up_a _ _ _ g
  obtain ⟨t, code, ht, tR, tc, tf⟩ := p_manL (L := L) ha (α 0 0) zFU 0 (fun _ => 0) (tNum L 0 100 τ).2 0 (zup u 15 (α 0 1) r) (Nat.zero_add _) (by unfold zFU; omega) (rdC_7 uR (fun a g => f15 a (by omega))) (by rw [f15 13 (by decide)]; exact d0) (fun j hj => by rw [f15 14 (by decide)]; exact ds j hj) (fun p hp => ⟨rfl, fun i hi => absurd hi (Nat.not_lt_zero i)⟩)
  have t13 : t 13 = u 13 := (tf.1 13 (by decide)).trans (f15 13 (by decide))
  have ea : ∀ a, a ≠ 13 → a ≠ 16 → zup (zup t 16 (α 0 1) code) 13 1 (nI (α 0 1 + 1)) a = t a := fun a g1 g2 => by rw [p_up_a _ _ _ g1, p_up_a _ _ _ g2]
  have e13 : ∀ j, j ≠ 1 → zup (zup t 16 (α 0 1) code) 13 1 (nI (α 0 1 + 1)) 13 j = u 13 j := fun j g => by rw [p_up_n _ _ (Or.inr g), p_up_a _ _ _ (by decide), t13]
  have e131 : zup (zup t 16 (α 0 1) code) 13 1 (nI (α 0 1 + 1)) 13 1 = nI (α 0 1 + 1) := p_up_s _ _ _ _
  have e16 : ∀ j, zup (zup t 16 (α 0 1) code) 13 1 (nI (α 0 1 + 1)) 16 j = if j = α 0 1 then code else u 16 j := fun j => by
    rw [p_up_a _ _ _ (by decide), p_up]
    by_cases g : j = α 0 1
    · rw [if_pos ⟨rfl, g⟩, if_pos g]
    · rw [if_neg (fun z => g z.2), if_neg g, tf.1 16 (by decide), f15 16 (by decide)]
  have hz : fX0_readMan 13 1 v = some (zup (zup t 16 (α 0 1) code) 13 1 (nI (α 0 1 + 1))) := by
    unfold fX0_readMan
    rw [show (0 : Int32) = nI 0 from rfl, show (99 : Int32) = nI 99 from rfl, hu, zbind_some, rA8, hd.1.1.2.1, p_set (by rw [lA.2.1]; exact hM), zbindv_some]
    refine ht.trans ?_
    unfold fX0_readMan_58
    rw [rA9, t13, d1, p_set (by rw [lA.2.2.1]; exact hM), zbindv_some, p_up_a _ _ _ (show (13 : Nat) ≠ 16 by decide), t13, d1, zlet_eq, show (nI (α 0 1) + 1 : Int32) = nI (α 0 1 + 1) from nI_add _ 1]
  generalize zup (zup t 16 (α 0 1) code) 13 1 (nI (α 0 1 + 1)) = w at ea e13 e131 e16 hz
  have tu : ∀ a, a ≠ 1 → a ≠ 15 → t a = u a := fun a g1 g2 => (tf.1 a g1).trans (f15 a g2)
  have ew : ∀ a, (a < 13 ∨ 22 < a) → w a = t a := fun a g => ea a (by omega) (by omega)
  refine ⟨w, hz, rdC_7 tR ew, fun q hq => ?_, fr7_tr (fr7_1 uf) (fr7_tr (fr7_up (fun a g => f15 a (by omega))) (fr7_tr (fr7_1 tf) (fr7_up ew)))⟩
  have hq2 : (tBs L α τ).2 = .inl q := hq
  obtain ⟨⟨p1, hp1⟩, -, hB⟩ := tBe_ok (α 0 0) 0 (fun _ => 0) _ q hq2 (fun i hi => absurd hi (Nat.not_lt_zero i))
  have hx := hr p1 hp1
  have hcode : code = nI (sCF (tBs L α τ).1 (α 0 0)) := tc q hq2
  obtain ⟨v0, v0n, v2, v2n, vB, vo⟩ := rMn_v L α τ
  show dAc (rMn L α τ).1 (fl || decide (1 = 3)) w
  generalize (rMn L α τ).1 = β at *
  refine ⟨⟨⟨by rw [e13 0 (by decide), d0, v0n 0 (by decide)], by rw [e131, v0], by rw [e13 2 (by decide), d2, v0n 2 (by decide)], by rw [e13 3 (by decide), d3, v0n 3 (by decide)], by rw [e13 4 (by decide), d4, v0n 4 (by decide)], by rw [e13 5 (by decide), d5, v0n 5 (by decide)]⟩, fun j hj => ?_, fun m hm => ?_, fun m hm => ?_, fun m hm => ?_, fun k hk => ?_, fun k hk => ?_⟩, ?_⟩
  · rw [v0n 0 (by decide)] at hj
    rw [ea 14 (by decide) (by decide), tu 14 (by decide) (by decide), vo 1 j (by decide) (by decide) (by omega)]; exact ds j hj
  · rw [ea 15 (by decide) (by decide), tf.1 15 (by decide), p_up]
    by_cases g : m = α 0 1
    · rw [if_pos ⟨rfl, g⟩, g, v2]; exact hx
    · rw [if_neg (fun z => g z.2), v2n m g]; exact da m (by omega)
  · rw [e16]
    unfold pCode
    rw [v0n 0 (by decide)]
    by_cases g : m = α 0 1
    · rw [if_pos g, hcode]
      exact congrArg nI (sCF_cg _ (fun i _ => by rw [g, vB]))
    · rw [if_neg g, dc m (by omega)]
      exact congrArg nI (sCF_cg _ (fun i _ => (vo (10 + m) i (by omega) (by omega) (by omega)).symm))
  · rw [v0n 3 (by decide)] at hm
    rw [ea 17 (by decide) (by decide), tu 17 (by decide) (by decide), vo 3 m (by decide) (by decide) (by omega)]; exact dt m hm
  · rw [v0n 4 (by decide)] at hk
    rw [ea 18 (by decide) (by decide), ea 19 (by decide) (by decide), tu 18 (by decide) (by decide), tu 19 (by decide) (by decide), vo _ _ (by omega) (by omega) (by omega), vo _ _ (by omega) (by omega) (by omega)]; exact dd k hk
  · rw [v0n 5 (by decide)] at hk
    rw [ea 20 (by decide) (by decide), ea 21 (by decide) (by decide), ea 22 (by decide) (by decide), tu 20 (by decide) (by decide), tu 21 (by decide) (by decide), tu 22 (by decide) (by decide), vo _ _ (by omega) (by omega) (by omega), vo _ _ (by omega) (by omega) (by omega), vo _ _ (by omega) (by omega) (by omega)]; exact dp k hk
  · rw [e13 6 (by decide), d6, show (fl || decide (1 = 3)) = fl from Bool.or_false fl]
theorem p_seatL {L : List Nat} {α : sA} (ha : okA α) {x r : Int32} {m p0 : Nat} : ∀ (d n s : Nat) (τ : rdE) (v : zV), s + d = α 0 3 → d < n → rdC L τ v → v 13 3 = nI (α 0 3) → (∀ j, j < α 0 3 → v 17 j = nI (α 3 j)) → m < 2 ^ 31 → (∀ p, τ = .inl p → x = nI p0 ∧ r = nI m) → ∃ w, fX0_readSeat_14 n 13 1 x r (nI s) v = fX0_readSeat_48 13 r w ∧ rdC L (tDp α m p0 d s τ) w ∧ fr1 v w := by
  have hS := ha.1.2.2.2.2.1
  have hC := ha.1.2.2.2.1
  intro d
  induction d with
  | zero =>
    intro n s τ v e hn h h0 h17 hm hx
    obtain ⟨n, rfl⟩ : ∃ k, n = k + 1 := ⟨n - 1, by omega⟩
    refine ⟨v, ?_, h, fr1_rf v⟩
    rw [fX0_readSeat_14]
    dsimp only
    rw [h0, if_pos (leY (by omega) (by omega) (by omega))]
  | succ d ih =>
    intro n s τ v e hn h h0 h17 hm hx
    obtain ⟨n, rfl⟩ : ∃ k, n = k + 1 := ⟨n - 1, by omega⟩
    have h3 := ha.2.2.2.1 s (by omega)
    have hM := ha.1.2.1
    have go : ∃ u, fX0_readSeat_14 (n + 1) 13 1 x r (nI s) v = fX0_readSeat_14 n 13 1 x r (nI (s + 1)) u ∧ rdC L (if α 3 s = m then tFl τ 2 p0 else τ) u ∧ fr1 v u := by
      rw [fX0_readSeat_14]
      dsimp only
      rw [h0, if_neg (leN (by omega) (by omega) (by omega)), rA10, p_get (by rw [lA.2.2.2.1]; omega), zbind_some, h17 s (by omega), show (nI s + 1 : Int32) = nI (s + 1) from nI_add _ 1]
      obtain ⟨u, hu, uR, uf⟩ := p_fail h (k := 2) (pl := p0) (by decide) (y := x) (fun p hp => (hx p hp).1)
      cases τ with
      | inl p =>
        obtain ⟨x1, x2⟩ := hx p rfl
        by_cases g : α 3 s = m
        · rw [if_pos (show nI (α 3 s) = r by rw [x2, g]), if_pos g]
          exact ⟨u, by rw [show (2 : Int32) = nI 2 from rfl, hu, zbindv_some], uR, uf⟩
        · rw [if_neg (show ¬ nI (α 3 s) = r from fun z => g (by rw [x2] at z; exact (nI_eq (by omega) hm).mp z)), if_neg g]
          exact ⟨v, rfl, h, fr1_rf v⟩
      | inr f =>
        have e2 : (if α 3 s = m then tFl (.inr f) 2 p0 else .inr f) = (.inr f : rdE) := by split <;> rfl
        rw [e2]
        by_cases g : nI (α 3 s) = r
        · rw [if_pos g]
          exact ⟨u, by rw [show (2 : Int32) = nI 2 from rfl, hu, zbindv_some], uR, uf⟩
        · rw [if_neg g]
          exact ⟨v, rfl, h, fr1_rf v⟩
    obtain ⟨u, hu, uR, uf⟩ := go
    obtain ⟨w, hw, wR, wf⟩ := ih n (s + 1) (if α 3 s = m then tFl τ 2 p0 else τ) u (by omega) (by omega) uR (by rw [uf.1 13 (by decide)]; exact h0) (fun j hj => by rw [uf.1 17 (by decide)]; exact h17 j hj) hm (fun p hp => by
      by_cases g : α 3 s = m
      · rw [if_pos g] at hp
        exact absurd hp tFl_no
      · rw [if_neg g] at hp
        exact hx p hp)
    exact ⟨w, hu.trans hw, wR, fr1_tr uf wf⟩
theorem tNum_b {L : List Nat} {a b : Nat} {τ : rdE} : (tNum L a b τ).1 ≤ 100000 := by
  cases τ with
  | inr f => exact Nat.zero_le _
  | inl p =>
    unfold tNum
    dsimp only
    split
    · split
      · exact tDig_bd L _ _ _ (by decide)
      · exact Nat.zero_le _
    · exact Nat.zero_le _
theorem p_seatR (L : List Nat) : cRd L 2 (fX0_readSeat 13 1) := by
  intro α fl c τ v ha hf h hd
  have hS := tFo_2 hf
  have hC := ha.1.2.2.2.1
  have hM := ha.1.2.1
  obtain ⟨x, u0, hu0, hx, u0R, -, u0f⟩ := p_lookAt h
  obtain ⟨r, u, hu, uR, hr, uf0⟩ := p_number u0R (okBd_n (b := α 0 1) (by omega))
  have uf := fr1_tr u0f uf0
  obtain ⟨⟨⟨d0, d1, d2, d3, d4, d5⟩, ds, da, dc, dt, dd, dp⟩, d6⟩ := dAc_1 hd uf
  have hb := tNum_b (L := L) (a := 0) (b := α 0 1) (τ := τ)
  obtain ⟨t, ht, tR, tf⟩ := p_seatL (L := L) ha (x := x) (r := r) (m := (tNum L 0 (α 0 1) τ).1) (p0 := tPo τ) (α 0 3) zFU 0 (tNum L 0 (α 0 1) τ).2 u (Nat.zero_add _) (by unfold zFU; omega) uR d3 (fun j hj => dt j hj) (by omega) (fun p hp => by
    obtain ⟨p', ep⟩ := tNum_in hp
    exact ⟨by rw [hx p' ep, ep]; rfl, hr p hp⟩)
  have t13 : t 13 = u 13 := tf.1 13 (by decide)
  have ea : ∀ a, a ≠ 13 → a ≠ 17 → zup (zup t 17 (α 0 3) r) 13 3 (nI (α 0 3 + 1)) a = t a := fun a g1 g2 => by rw [p_up_a _ _ _ g1, p_up_a _ _ _ g2]
  have e13 : ∀ j, j ≠ 3 → zup (zup t 17 (α 0 3) r) 13 3 (nI (α 0 3 + 1)) 13 j = u 13 j := fun j g => by rw [p_up_n _ _ (Or.inr g), p_up_a _ _ _ (by decide), t13]
  have e133 : zup (zup t 17 (α 0 3) r) 13 3 (nI (α 0 3 + 1)) 13 3 = nI (α 0 3 + 1) := p_up_s _ _ _ _
  have e17 : ∀ j, zup (zup t 17 (α 0 3) r) 13 3 (nI (α 0 3 + 1)) 17 j = if j = α 0 3 then r else u 17 j := fun j => by
    rw [p_up_a _ _ _ (by decide), p_up]
    by_cases g : j = α 0 3
    · rw [if_pos ⟨rfl, g⟩, if_pos g]
    · rw [if_neg (fun z => g z.2), if_neg g, tf.1 17 (by decide)]
  have hz : fX0_readSeat 13 1 v = some (zup (zup t 17 (α 0 3) r) 13 3 (nI (α 0 3 + 1))) := by
    have ht2 : fX0_readSeat_14 zFU 13 1 x r 0 u = fX0_readSeat_48 13 r t := ht
    unfold fX0_readSeat fX0_readKnownMan
    rw [hu0, zbind_some, u0f.1 13 (by decide), hd.1.1.2.1]
    rw [hu, zbind_some, zbind_some, ht2]
    unfold fX0_readSeat_48
    rw [rA10, t13, d3, p_set (by rw [lA.2.2.2.1]; omega), zbindv_some, p_up_a _ _ _ (show (13 : Nat) ≠ 17 by decide), t13, d3, zlet_eq, show (nI (α 0 3) + 1 : Int32) = nI (α 0 3 + 1) from nI_add _ 1]
  generalize zup (zup t 17 (α 0 3) r) 13 3 (nI (α 0 3 + 1)) = w at ea e13 e133 e17 hz
  have tu : ∀ a, a ≠ 1 → t a = u a := fun a g1 => tf.1 a g1
  have ew : ∀ a, (a < 13 ∨ 22 < a) → w a = t a := fun a g => ea a (by omega) (by omega)
  refine ⟨w, hz, rdC_7 tR ew, fun q hq => ?_, fr7_tr (fr7_1 uf) (fr7_tr (fr7_1 tf) (fr7_up ew))⟩
  have hq2 : tDp α (tNum L 0 (α 0 1) τ).1 (tPo τ) (α 0 3) 0 (tNum L 0 (α 0 1) τ).2 = .inl q := hq
  have hx2 := hr q (tDp_ok _ _ _ _ hq2).1
  obtain ⟨v0, v0n, v3, v3n, vo⟩ := rSt_v L α τ
  show dAc (rSt L α τ).1 (fl || decide (2 = 3)) w
  generalize (rSt L α τ).1 = β at *
  refine ⟨⟨⟨by rw [e13 0 (by decide), d0, v0n 0 (by decide)], by rw [e13 1 (by decide), d1, v0n 1 (by decide)], by rw [e13 2 (by decide), d2, v0n 2 (by decide)], by rw [e133, v0], by rw [e13 4 (by decide), d4, v0n 4 (by decide)], by rw [e13 5 (by decide), d5, v0n 5 (by decide)]⟩, fun j hj => ?_, fun m hm => ?_, fun m hm => ?_, fun m hm => ?_, fun k hk => ?_, fun k hk => ?_⟩, ?_⟩
  · rw [v0n 0 (by decide)] at hj
    rw [ea 14 (by decide) (by decide), tu 14 (by decide), vo 1 j (by decide) (by decide)]; exact ds j hj
  · rw [v0n 1 (by decide)] at hm
    rw [ea 15 (by decide) (by decide), tu 15 (by decide), vo 2 m (by decide) (by decide)]; exact da m hm
  · rw [v0n 1 (by decide)] at hm
    rw [ea 16 (by decide) (by decide), tu 16 (by decide), dc m hm]
    unfold pCode
    rw [v0n 0 (by decide)]
    exact congrArg nI (sCF_cg _ (fun i _ => (vo (10 + m) i (by omega) (by omega)).symm))
  · rw [e17]
    by_cases g : m = α 0 3
    · rw [if_pos g, g, v3]; exact hx2
    · rw [if_neg g, v3n m g]; exact dt m (by omega)
  · rw [v0n 4 (by decide)] at hk
    rw [ea 18 (by decide) (by decide), ea 19 (by decide) (by decide), tu 18 (by decide), tu 19 (by decide), vo _ _ (by omega) (by omega), vo _ _ (by omega) (by omega)]; exact dd k hk
  · rw [v0n 5 (by decide)] at hk
    rw [ea 20 (by decide) (by decide), ea 21 (by decide) (by decide), ea 22 (by decide) (by decide), tu 20 (by decide), tu 21 (by decide), tu 22 (by decide), vo _ _ (by omega) (by omega), vo _ _ (by omega) (by omega), vo _ _ (by omega) (by omega)]; exact dp k hk
  · rw [e13 6 (by decide), d6, show (fl || decide (2 = 3)) = fl from Bool.or_false fl]
theorem p_chairsR (L : List Nat) : cRd L 3 (fX0_readChairs 13 1) := by
  intro α fl c τ v ha hf h hd
  obtain ⟨r, u, hu, uR, hr, uf⟩ := p_number h (okBd_l (a := 2) (b := 12) (by decide) (by decide))
  obtain ⟨⟨⟨d0, d1, d2, d3, d4, d5⟩, ds, da, dc, dt, dd, dp⟩, d6⟩ := dAc_1 hd uf
  have ea : ∀ a, a ≠ 13 → zup (zup u 13 2 r) 13 6 1 a = u a := fun a g1 => by rw [p_up_a _ _ _ g1, p_up_a _ _ _ g1]
  have e13 : ∀ j, j ≠ 2 → j ≠ 6 → zup (zup u 13 2 r) 13 6 1 13 j = u 13 j := fun j g1 g2 => by rw [p_up_n _ _ (Or.inr g2), p_up_n _ _ (Or.inr g1)]
  have e132 : zup (zup u 13 2 r) 13 6 1 13 2 = r := by rw [p_up_n _ _ (Or.inr (by decide)), p_up_s]
  have e136 : zup (zup u 13 2 r) 13 6 1 13 6 = 1 := p_up_s _ _ _ _
  have hz : fX0_readChairs 13 1 v = some (zup (zup u 13 2 r) 13 6 1) := by
    unfold fX0_readChairs
    rw [show (2 : Int32) = nI 2 from rfl, show (12 : Int32) = nI 12 from rfl, hu, zbind_some, zlet_eq, zlet_eq]
  generalize zup (zup u 13 2 r) 13 6 1 = w at ea e13 e132 e136 hz
  have ew : ∀ a, (a < 13 ∨ 22 < a) → w a = u a := fun a g => ea a (by omega)
  refine ⟨w, hz, rdC_7 uR ew, fun q hq => ?_, fr7_tr (fr7_1 uf) (fr7_up ew)⟩
  have hx := hr q hq
  obtain ⟨v2, v0n, vo⟩ := rCh_v L α τ
  show dAc (rCh L α τ).1 (fl || decide (3 = 3)) w
  generalize (rCh L α τ).1 = β at *
  refine ⟨⟨⟨by rw [e13 0 (by decide) (by decide), d0, v0n 0 (by decide)], by rw [e13 1 (by decide) (by decide), d1, v0n 1 (by decide)], by rw [e132, v2]; exact hx, by rw [e13 3 (by decide) (by decide), d3, v0n 3 (by decide)], by rw [e13 4 (by decide) (by decide), d4, v0n 4 (by decide)], by rw [e13 5 (by decide) (by decide), d5, v0n 5 (by decide)]⟩, fun j hj => ?_, fun m hm => ?_, fun m hm => ?_, fun m hm => ?_, fun k hk => ?_, fun k hk => ?_⟩, ?_⟩
  · rw [v0n 0 (by decide)] at hj
    rw [ea 14 (by decide), vo 1 j (by decide)]; exact ds j hj
  · rw [v0n 1 (by decide)] at hm
    rw [ea 15 (by decide), vo 2 m (by decide)]; exact da m hm
  · rw [v0n 1 (by decide)] at hm
    rw [ea 16 (by decide), dc m hm]
    unfold pCode
    rw [v0n 0 (by decide)]
    exact congrArg nI (sCF_cg _ (fun i _ => (vo (10 + m) i (by omega)).symm))
  · rw [v0n 3 (by decide)] at hm
    rw [ea 17 (by decide), vo 3 m (by decide)]; exact dt m hm
  · rw [v0n 4 (by decide)] at hk
    rw [ea 18 (by decide), ea 19 (by decide), vo _ _ (by omega), vo _ _ (by omega)]; exact dd k hk
  · rw [v0n 5 (by decide)] at hk
    rw [ea 20 (by decide), ea 21 (by decide), ea 22 (by decide), vo _ _ (by omega), vo _ _ (by omega), vo _ _ (by omega)]; exact dp k hk
  · rw [e136, show (fl || decide (3 = 3)) = true from Bool.or_true fl]
    rfl
theorem up_at (v : zV) (a k : Nat) (x : Int32) (j : Nat) : zup v a k x a j = if j = k then x else v a j := by
  rw [p_up]
  by_cases g : j = k
  · rw [if_pos ⟨rfl, g⟩, if_pos g]
  · rw [if_neg (fun z => g z.2), if_neg g]
theorem p_deathR (L : List Nat) : cRd L 4 (fX0_readDeath 13 1) := by
  intro α fl c τ v ha hf h hd
  have hK := tFo_4 hf
  have hM := ha.1.2.1
  obtain ⟨r, u, hu, uR, hr, uf⟩ := p_number h (okBd_l (a := 1) (b := 60) (by decide) (by decide))
  have hd1 := dAc_1 hd uf
  have f18 : ∀ a, a ≠ 18 → zup u 18 (α 0 4) r a = u a := fun a g => p_up_a _ _ _ g
  obtain ⟨r2, t, ht, tR, hr2, tf⟩ := p_number (rdC_7 uR (fun a g => f18 a (by omega))) (okBd_n (b := α 0 1) (by omega))
  obtain ⟨⟨⟨d0, d1, d2, d3, d4, d5⟩, ds, da, dc, dt, dd, dp⟩, d6⟩ := hd1
  have tu : ∀ a, a ≠ 1 → a ≠ 18 → t a = u a := fun a g1 g2 => (tf.1 a g1).trans (f18 a g2)
  have t18 : ∀ j, t 18 j = if j = α 0 4 then r else u 18 j := fun j => by rw [tf.1 18 (by decide), up_at]
  have t13 : t 13 = u 13 := tu 13 (by decide) (by decide)
  have ea : ∀ a, a ≠ 13 → a ≠ 19 → zup (zup t 19 (α 0 4) r2) 13 4 (nI (α 0 4 + 1)) a = t a := fun a g1 g2 => by rw [p_up_a _ _ _ g1, p_up_a _ _ _ g2]
  have e13 : ∀ j, j ≠ 4 → zup (zup t 19 (α 0 4) r2) 13 4 (nI (α 0 4 + 1)) 13 j = u 13 j := fun j g => by rw [p_up_n _ _ (Or.inr g), p_up_a _ _ _ (by decide), t13]
  have e134 : zup (zup t 19 (α 0 4) r2) 13 4 (nI (α 0 4 + 1)) 13 4 = nI (α 0 4 + 1) := p_up_s _ _ _ _
  have e19 : ∀ j, zup (zup t 19 (α 0 4) r2) 13 4 (nI (α 0 4 + 1)) 19 j = if j = α 0 4 then r2 else u 19 j := fun j => by rw [p_up_a _ _ _ (by decide), up_at, tu 19 (by decide) (by decide)]
  have hz : fX0_readDeath 13 1 v = some (zup (zup t 19 (α 0 4) r2) 13 4 (nI (α 0 4 + 1))) := by
    unfold fX0_readDeath fX0_readKnownMan
    rw [show (1 : Int32) = nI 1 from rfl, show (60 : Int32) = nI 60 from rfl, hu, zbind_some, rA11, hd.1.1.2.2.2.2.1, p_set (by rw [lA.2.2.2.2.1]; exact hK), zbindv_some, f18 13 (by decide), d1]
    have ht2 : fX8_number 1 0 (nI (α 0 1) - nI 1) (zup u 18 (α 0 4) r) = some (r2, t) := ht
    rw [ht2, zbind_some, zbind_some, rA12, d4, p_set (by rw [lA.2.2.2.2.2.1]; exact hK), zbindv_some, p_up_a _ _ _ (show (13 : Nat) ≠ 19 by decide), t13, d4, zlet_eq, nI_add]
  generalize zup (zup t 19 (α 0 4) r2) 13 4 (nI (α 0 4 + 1)) = w at ea e13 e134 e19 hz
  have ew : ∀ a, (a < 13 ∨ 22 < a) → w a = t a := fun a g => ea a (by omega) (by omega)
  refine ⟨w, hz, rdC_7 tR ew, fun q hq => ?_, fr7_tr (fr7_1 uf) (fr7_tr (fr7_up (fun a g => f18 a (by omega))) (fr7_tr (fr7_1 tf) (fr7_up ew)))⟩
  have hx2 := hr2 q hq
  obtain ⟨p1, hp1⟩ := tNum_in (show (tNum L 0 (α 0 1) (tNum L 1 61 τ).2).2 = .inl q from hq)
  have hx := hr p1 hp1
  obtain ⟨v0, v0n, vy, vm, vo⟩ := rDe_v L α τ
  show dAc (rDe L α τ).1 (fl || decide (4 = 3)) w
  generalize (rDe L α τ).1 = β at *
  refine ⟨⟨⟨by rw [e13 0 (by decide), d0, v0n 0 (by decide)], by rw [e13 1 (by decide), d1, v0n 1 (by decide)], by rw [e13 2 (by decide), d2, v0n 2 (by decide)], by rw [e13 3 (by decide), d3, v0n 3 (by decide)], by rw [e134, v0], by rw [e13 5 (by decide), d5, v0n 5 (by decide)]⟩, fun j hj => ?_, fun m hm => ?_, fun m hm => ?_, fun m hm => ?_, fun k hk => ?_, fun k hk => ?_⟩, ?_⟩
  · rw [v0n 0 (by decide)] at hj
    rw [ea 14 (by decide) (by decide), tu 14 (by decide) (by decide), vo 1 j (by decide) (by omega)]; exact ds j hj
  · rw [v0n 1 (by decide)] at hm
    rw [ea 15 (by decide) (by decide), tu 15 (by decide) (by decide), vo 2 m (by decide) (by omega)]; exact da m hm
  · rw [v0n 1 (by decide)] at hm
    rw [ea 16 (by decide) (by decide), tu 16 (by decide) (by decide), dc m hm]
    unfold pCode
    rw [v0n 0 (by decide)]
    exact congrArg nI (sCF_cg _ (fun i _ => (vo (10 + m) i (by omega) (by omega)).symm))
  · rw [v0n 3 (by decide)] at hm
    rw [ea 17 (by decide) (by decide), tu 17 (by decide) (by decide), vo 3 m (by decide) (by omega)]; exact dt m hm
  · rw [ea 18 (by decide) (by decide), t18, e19]
    by_cases g : k = α 0 4
    · rw [if_pos g, if_pos g, g, vy, vm]; exact ⟨hx, hx2⟩
    · rw [if_neg g, if_neg g, vo (30 + k) 0 (by omega) (by omega), vo (30 + k) 1 (by omega) (by omega)]; exact dd k (by omega)
  · rw [v0n 5 (by decide)] at hk
    rw [ea 20 (by decide) (by decide), ea 21 (by decide) (by decide), ea 22 (by decide) (by decide), tu 20 (by decide) (by decide), tu 21 (by decide) (by decide), tu 22 (by decide) (by decide), vo _ _ (by omega) (by omega), vo _ _ (by omega) (by omega), vo _ _ (by omega) (by omega)]; exact dp k hk
  · rw [e13 6 (by decide), d6, show (fl || decide (4 = 3)) = fl from Bool.or_false fl]
theorem p_praiseR (L : List Nat) : cRd L 5 (fX0_readPraise 13 1) := by
  intro α fl c τ v ha hf h hd
  have hK := tFo_5 hf
  have hM := ha.1.2.1
  have hD12 := ha.1.2.2.2.2.2.1
  obtain ⟨r, u, hu, uR, hr, uf⟩ := p_number h (okBd_l (a := 1) (b := 60) (by decide) (by decide))
  have hd1 := dAc_1 hd uf
  have f20 : ∀ a, a ≠ 20 → zup u 20 (α 0 5) r a = u a := fun a g => p_up_a _ _ _ g
  obtain ⟨r2, t, ht, tR, hr2, tf⟩ := p_number (rdC_7 uR (fun a g => f20 a (by omega))) (okBd_n (b := α 0 1) (by omega))
  obtain ⟨⟨⟨d0, d1, d2, d3, d4, d5⟩, ds, da, dc, dt, dd, dp⟩, d6⟩ := hd1
  have tu : ∀ a, a ≠ 1 → a ≠ 20 → t a = u a := fun a g1 g2 => (tf.1 a g1).trans (f20 a g2)
  have t20 : ∀ j, t 20 j = if j = α 0 5 then r else u 20 j := fun j => by rw [tf.1 20 (by decide), up_at]
  have t13 : t 13 = u 13 := tu 13 (by decide) (by decide)
  have f21 : ∀ a, a ≠ 21 → zup t 21 (α 0 5) r2 a = t a := fun a g => p_up_a _ _ _ g
  obtain ⟨r3, s, hs, sR, hr3, sf⟩ := p_number (rdC_7 tR (fun a g => f21 a (by omega))) (okBd_l (a := 1) (b := 99) (by decide) (by decide))
  have st : ∀ a, a ≠ 1 → a ≠ 21 → s a = t a := fun a g1 g2 => (sf.1 a g1).trans (f21 a g2)
  have s13 : s 13 = u 13 := (st 13 (by decide) (by decide)).trans t13
  have s21 : ∀ j, s 21 j = if j = α 0 5 then r2 else u 21 j := fun j => by rw [sf.1 21 (by decide), up_at, tu 21 (by decide) (by decide)]
  have ea : ∀ a, a ≠ 13 → a ≠ 22 → zup (zup s 22 (α 0 5) r3) 13 5 (nI (α 0 5 + 1)) a = s a := fun a g1 g2 => by rw [p_up_a _ _ _ g1, p_up_a _ _ _ g2]
  have e13 : ∀ j, j ≠ 5 → zup (zup s 22 (α 0 5) r3) 13 5 (nI (α 0 5 + 1)) 13 j = u 13 j := fun j g => by rw [p_up_n _ _ (Or.inr g), p_up_a _ _ _ (by decide), s13]
  have e135 : zup (zup s 22 (α 0 5) r3) 13 5 (nI (α 0 5 + 1)) 13 5 = nI (α 0 5 + 1) := p_up_s _ _ _ _
  have e22 : ∀ j, zup (zup s 22 (α 0 5) r3) 13 5 (nI (α 0 5 + 1)) 22 j = if j = α 0 5 then r3 else u 22 j := fun j => by rw [p_up_a _ _ _ (by decide), up_at, st 22 (by decide) (by decide), tu 22 (by decide) (by decide)]
  have hz : fX0_readPraise 13 1 v = some (zup (zup s 22 (α 0 5) r3) 13 5 (nI (α 0 5 + 1))) := by
    unfold fX0_readPraise fX0_readKnownMan
    rw [show (1 : Int32) = nI 1 from rfl, show (60 : Int32) = nI 60 from rfl, hu, zbind_some, rA13, hd.1.1.2.2.2.2.2, p_set (by rw [lA.2.2.2.2.2.2.1]; exact hK), zbindv_some, f20 13 (by decide), d1]
    have ht2 : fX8_number 1 0 (nI (α 0 1) - nI 1) (zup u 20 (α 0 5) r) = some (r2, t) := ht
    rw [ht2, zbind_some, zbind_some, rA14, d5, p_set (by rw [lA.2.2.2.2.2.2.2.1]; exact hK), zbindv_some, show (99 : Int32) = nI 99 from rfl, hs, zbind_some, rA15, f21 13 (by decide), t13, d5, p_set (by rw [lA.2.2.2.2.2.2.2.2]; exact hK), zbindv_some, p_up_a _ _ _ (show (13 : Nat) ≠ 22 by decide), s13, d5, zlet_eq, nI_add]
  generalize zup (zup s 22 (α 0 5) r3) 13 5 (nI (α 0 5 + 1)) = w at ea e13 e135 e22 hz
  have ew : ∀ a, (a < 13 ∨ 22 < a) → w a = s a := fun a g => ea a (by omega) (by omega)
  refine ⟨w, hz, rdC_7 sR ew, fun q hq => ?_, fr7_tr (fr7_1 uf) (fr7_tr (fr7_up (fun a g => f20 a (by omega))) (fr7_tr (fr7_1 tf) (fr7_tr (fr7_up (fun a g => f21 a (by omega))) (fr7_tr (fr7_1 sf) (fr7_up ew)))))⟩
  have hx3 := hr3 q hq
  obtain ⟨p2, hp2⟩ := tNum_in (show (tNum L 1 100 (tNum L 0 (α 0 1) (tNum L 1 61 τ).2).2).2 = .inl q from hq)
  have hx2 := hr2 p2 hp2
  obtain ⟨p1, hp1⟩ := tNum_in hp2
  have hx := hr p1 hp1
  obtain ⟨v0, v0n, vy, vm, vz, vo⟩ := rPr_v L α τ
  show dAc (rPr L α τ).1 (fl || decide (5 = 3)) w
  generalize (rPr L α τ).1 = β at *
  have su : ∀ a, a ≠ 1 → a ≠ 20 → a ≠ 21 → s a = u a := fun a g1 g2 g3 => (st a g1 g3).trans (tu a g1 g2)
  refine ⟨⟨⟨by rw [e13 0 (by decide), d0, v0n 0 (by decide)], by rw [e13 1 (by decide), d1, v0n 1 (by decide)], by rw [e13 2 (by decide), d2, v0n 2 (by decide)], by rw [e13 3 (by decide), d3, v0n 3 (by decide)], by rw [e13 4 (by decide), d4, v0n 4 (by decide)], by rw [e135, v0]⟩, fun j hj => ?_, fun m hm => ?_, fun m hm => ?_, fun m hm => ?_, fun k hk => ?_, fun k hk => ?_⟩, ?_⟩
  · rw [v0n 0 (by decide)] at hj
    rw [ea 14 (by decide) (by decide), su 14 (by decide) (by decide) (by decide), vo 1 j (by decide) (by omega)]; exact ds j hj
  · rw [v0n 1 (by decide)] at hm
    rw [ea 15 (by decide) (by decide), su 15 (by decide) (by decide) (by decide), vo 2 m (by decide) (by omega)]; exact da m hm
  · rw [v0n 1 (by decide)] at hm
    rw [ea 16 (by decide) (by decide), su 16 (by decide) (by decide) (by decide), dc m hm]
    unfold pCode
    rw [v0n 0 (by decide)]
    exact congrArg nI (sCF_cg _ (fun i _ => (vo (10 + m) i (by omega) (by omega)).symm))
  · rw [v0n 3 (by decide)] at hm
    rw [ea 17 (by decide) (by decide), su 17 (by decide) (by decide) (by decide), vo 3 m (by decide) (by omega)]; exact dt m hm
  · rw [v0n 4 (by decide)] at hk
    rw [ea 18 (by decide) (by decide), ea 19 (by decide) (by decide), su 18 (by decide) (by decide) (by decide), su 19 (by decide) (by decide) (by decide), vo _ _ (by omega) (by omega), vo _ _ (by omega) (by omega)]; exact dd k hk
  · rw [ea 20 (by decide) (by decide), st 20 (by decide) (by decide), t20, ea 21 (by decide) (by decide), s21, e22]
    by_cases g : k = α 0 5
    · rw [if_pos g, if_pos g, if_pos g, g, vy, vm, vz]; exact ⟨hx, hx2, hx3⟩
    · rw [if_neg g, if_neg g, if_neg g, vo (50 + k) 0 (by omega) (by omega), vo (50 + k) 1 (by omega) (by omega), vo (50 + k) 2 (by omega) (by omega)]; exact dp k (by omega)
  · rw [e13 6 (by decide), d6, show (fl || decide (5 = 3)) = fl from Bool.or_false fl]
theorem p_kindC {L : List Nat} {τ : rdE} {v : zV} (h : rdC L τ v) : ∃ w, fX0_readKind 1 v = some (oI (tKd L τ).1, w) ∧ rdC L (tKd L τ).2 w ∧ fr1 v w := by
  unfold fX0_readKind
  obtain ⟨u0, hu0, R0, f0, -⟩ := p_takesWord h (i := 0) (by decide)
  rw [hu0, zbind_some]
  by_cases g0 : (tTk L (tW 0) τ).1 = true
  · have e : tKd L τ = (some 0, (tTk L (tW 0) τ).2) := tKd_at (k := 0) (by decide) (fun j hj => absurd hj (Nat.not_lt_zero j)) g0
    rw [if_pos g0, if_neg (show ¬ (1 : Int32) = 0 by decide), e]
    exact ⟨u0, rfl, R0, f0⟩
  have r0 : rdC L τ u0 := by rw [tTk_no g0] at R0; exact R0
  rw [if_neg g0, if_pos rfl]
  obtain ⟨u1, hu1, R1, f1, -⟩ := p_takesWord r0 (i := 1) (by decide)
  rw [hu1, zbind_some]
  by_cases g1 : (tTk L (tW 1) τ).1 = true
  · have e : tKd L τ = (some 1, (tTk L (tW 1) τ).2) := tKd_at (k := 1) (by decide) (fun j hj => by
        obtain rfl : j = 0 := by omega
        exact g0) g1
    rw [if_pos g1, if_neg (show ¬ (1 : Int32) = 0 by decide), e]
    exact ⟨u1, rfl, R1, fr1_tr (f0) f1⟩
  have r1 : rdC L τ u1 := by rw [tTk_no g1] at R1; exact R1
  rw [if_neg g1, if_pos rfl]
  obtain ⟨u2, hu2, R2, f2, -⟩ := p_takesWord r1 (i := 2) (by decide)
  rw [hu2, zbind_some]
  by_cases g2 : (tTk L (tW 2) τ).1 = true
  · have e : tKd L τ = (some 2, (tTk L (tW 2) τ).2) := tKd_at (k := 2) (by decide) (fun j hj => by
        have : j = 0 ∨ j = 1 := by omega
        rcases this with rfl | rfl
        · exact g0
        · exact g1) g2
    rw [if_pos g2, if_neg (show ¬ (1 : Int32) = 0 by decide), e]
    exact ⟨u2, rfl, R2, fr1_tr (fr1_tr (f0) f1) f2⟩
  have r2 : rdC L τ u2 := by rw [tTk_no g2] at R2; exact R2
  rw [if_neg g2, if_pos rfl]
  obtain ⟨u3, hu3, R3, f3, -⟩ := p_takesWord r2 (i := 3) (by decide)
  rw [hu3, zbind_some]
  by_cases g3 : (tTk L (tW 3) τ).1 = true
  · have e : tKd L τ = (some 3, (tTk L (tW 3) τ).2) := tKd_at (k := 3) (by decide) (fun j hj => by
        have : j = 0 ∨ j = 1 ∨ j = 2 := by omega
        rcases this with rfl | rfl | rfl
        · exact g0
        · exact g1
        · exact g2) g3
    rw [if_pos g3, if_neg (show ¬ (1 : Int32) = 0 by decide), e]
    exact ⟨u3, rfl, R3, fr1_tr (fr1_tr (fr1_tr (f0) f1) f2) f3⟩
  have r3 : rdC L τ u3 := by rw [tTk_no g3] at R3; exact R3
  rw [if_neg g3, if_pos rfl]
  obtain ⟨u4, hu4, R4, f4, -⟩ := p_takesWord r3 (i := 4) (by decide)
  rw [hu4, zbind_some]
  by_cases g4 : (tTk L (tW 4) τ).1 = true
  · have e : tKd L τ = (some 4, (tTk L (tW 4) τ).2) := tKd_at (k := 4) (by decide) (fun j hj => by
        have : j = 0 ∨ j = 1 ∨ j = 2 ∨ j = 3 := by omega
        rcases this with rfl | rfl | rfl | rfl
        · exact g0
        · exact g1
        · exact g2
        · exact g3) g4
    rw [if_pos g4, if_neg (show ¬ (1 : Int32) = 0 by decide), e]
    exact ⟨u4, rfl, R4, fr1_tr (fr1_tr (fr1_tr (fr1_tr (f0) f1) f2) f3) f4⟩
  have r4 : rdC L τ u4 := by rw [tTk_no g4] at R4; exact R4
  rw [if_neg g4, if_pos rfl]
  obtain ⟨u5, hu5, R5, f5, -⟩ := p_takesWord r4 (i := 5) (by decide)
  rw [hu5, zbind_some]
  by_cases g5 : (tTk L (tW 5) τ).1 = true
  · have e : tKd L τ = (some 5, (tTk L (tW 5) τ).2) := tKd_at (k := 5) (by decide) (fun j hj => by
        have : j = 0 ∨ j = 1 ∨ j = 2 ∨ j = 3 ∨ j = 4 := by omega
        rcases this with rfl | rfl | rfl | rfl | rfl
        · exact g0
        · exact g1
        · exact g2
        · exact g3
        · exact g4) g5
    rw [if_pos g5, if_neg (show ¬ (1 : Int32) = 0 by decide), e]
    exact ⟨u5, rfl, R5, fr1_tr (fr1_tr (fr1_tr (fr1_tr (fr1_tr (f0) f1) f2) f3) f4) f5⟩
  have r5 : rdC L τ u5 := by rw [tTk_no g5] at R5; exact R5
  rw [if_neg g5, if_pos rfl]
  rw [tKd_no (fun j hj => by
    have : j = 0 ∨ j = 1 ∨ j = 2 ∨ j = 3 ∨ j = 4 ∨ j = 5 := by omega
    rcases this with rfl | rfl | rfl | rfl | rfl | rfl
    · exact g0
    · exact g1
    · exact g2
    · exact g3
    · exact g4
    · exact g5)]
  exact ⟨u5, rfl, r5, fr1_tr (fr1_tr (fr1_tr (fr1_tr (fr1_tr (f0) f1) f2) f3) f4) f5⟩
theorem tKd_lt {L : List Nat} {τ : rdE} {k : Nat} (h : (tKd L τ).1 = some k) : k < 6 ∧ ∃ p, τ = .inl p ∧ tIs L p (tW k) = true ∧ (tKd L τ).2 = .inl (tSk L (p + (tW k).length)) := by
  have key : ∀ d k0, k0 + d = 6 → (tKdA L τ d k0).1 = some k → k < 6 ∧ ∃ p, τ = .inl p ∧ tIs L p (tW k) = true ∧ (tKdA L τ d k0).2 = .inl (tSk L (p + (tW k).length)) := by
    intro d
    induction d with
    | zero => intro k0 _ h; cases h
    | succ d ih =>
      intro k0 e h
      rw [tKdA] at h ⊢
      by_cases c : (tTk L (tW k0) τ).1 = true
      · rw [if_pos c] at h ⊢
        cases h
        obtain ⟨p, h1, h2, h3⟩ := tTk_ok c
        exact ⟨by omega, p, h1, h2, h3⟩
      · rw [if_neg c] at h ⊢
        exact ih (k0 + 1) (by omega) h
  exact key 6 0 rfl h
theorem tKd_none {L : List Nat} {τ : rdE} (h : (tKd L τ).1 = none) : (tKd L τ).2 = τ ∧ ∀ x, x < 6 → ¬ (tTk L (tW x) τ).1 = true := by
  have key : ∀ d k0, k0 + d = 6 → (tKdA L τ d k0).1 = none → (tKdA L τ d k0).2 = τ ∧ ∀ x, k0 ≤ x → x < 6 → ¬ (tTk L (tW x) τ).1 = true := by
    intro d
    induction d with
    | zero => intro k0 e _; exact ⟨rfl, fun x h1 h2 => by omega⟩
    | succ d ih =>
      intro k0 e h
      rw [tKdA] at h ⊢
      by_cases c : (tTk L (tW k0) τ).1 = true
      · rw [if_pos c] at h; cases h
      · rw [if_neg c] at h ⊢
        obtain ⟨i1, i2⟩ := ih (k0 + 1) (by omega) h
        refine ⟨i1, fun x h1 h2 => ?_⟩
        by_cases g : x = k0
        · rw [g]; exact c
        · exact i2 x (by omega) h2
  obtain ⟨a, b⟩ := key 6 0 rfl h
  exact ⟨a, fun x hx => b x (Nat.zero_le _) hx⟩
theorem tFo_le (α : sA) (fl : Bool) (c k : Nat) : tFo α fl c k ≤ 4 := by
  unfold tFo
  repeat' split
  all_goals omega
theorem p_faultC {α : sA} {fl : Bool} {c k : Nat} (hk : k < 6) (hc : c < 60) (ha : okA α) {v : zV} (hd : dAc α fl v) : fX0_faultOf 13 (nI k) v = some (nI (tFo α fl c k), v) := by
  obtain ⟨⟨⟨d0, d1, d2, d3, d4, d5⟩, -⟩, d6⟩ := hd
  obtain ⟨⟨a0, a1, a2, a3, a4, a5, a6⟩, -⟩ := ha
  unfold fX0_faultOf tFo
  rw [if_neg (show ¬ 60 ≤ c by omega), d0, d1, d2, d3, d4, d5, d6]
  have lt : ∀ {a b : Nat}, a < 100 → b < 100 → ((nI a < nI b) = (a < b)) := fun h1 h2 => nI_lt' (by omega) (by omega)
  have le : ∀ {a b : Nat}, a < 100 → b < 100 → ((nI a ≤ nI b) = (a ≤ b)) := fun h1 h2 => nI_le' (by omega) (by omega)
  have : k = 0 ∨ k = 1 ∨ k = 2 ∨ k = 3 ∨ k = 4 ∨ k = 5 := by omega
  rcases this with rfl | rfl | rfl | rfl | rfl | rfl
  · rw [if_pos (show nI 0 = 0 from rfl), if_pos rfl]
    by_cases g : α 0 0 < 6
    · rw [if_pos (show nI (α 0 0) < (6 : Int32) from (lt (b := 6) (by omega) (by omega)).mpr g), if_neg (show ¬ 6 ≤ α 0 0 by omega)]
      by_cases g2 : α 0 1 ≤ 0
      · rw [if_pos (show nI (α 0 1) ≤ (0 : Int32) from (le (b := 0) (by omega) (by omega)).mpr g2), if_neg (show ¬ 0 < α 0 1 by omega)]
        rfl
      · rw [if_neg (show ¬ nI (α 0 1) ≤ (0 : Int32) from fun z => g2 ((le (b := 0) (by omega) (by omega)).mp z)), if_pos (show 0 < α 0 1 by omega)]
        rfl
    · rw [if_neg (show ¬ nI (α 0 0) < (6 : Int32) from fun z => g ((lt (b := 6) (by omega) (by omega)).mp z)), if_pos (show 6 ≤ α 0 0 by omega)]
      rfl
  · rw [if_neg (show ¬ nI 1 = (0 : Int32) by decide), if_pos (show nI 1 = 1 from rfl), if_neg (show ¬ (1 : Nat) = 0 by decide), if_pos rfl]
    by_cases g : α 0 1 < 16
    · rw [if_pos (show nI (α 0 1) < (16 : Int32) from (lt (b := 16) (by omega) (by omega)).mpr g), if_neg (show ¬ 16 ≤ α 0 1 by omega)]
      rfl
    · rw [if_neg (show ¬ nI (α 0 1) < (16 : Int32) from fun z => g ((lt (b := 16) (by omega) (by omega)).mp z)), if_pos (show 16 ≤ α 0 1 by omega)]
      rfl
  · rw [if_neg (show ¬ nI 2 = (0 : Int32) by decide), if_neg (show ¬ nI 2 = (1 : Int32) by decide), if_pos (show nI 2 = 2 from rfl), if_neg (show ¬ (2 : Nat) = 0 by decide), if_neg (show ¬ (2 : Nat) = 1 by decide), if_pos rfl]
    by_cases g : α 0 3 < α 0 2
    · rw [if_pos ((lt (by omega) (by omega)).mpr g), if_neg (show ¬ α 0 2 ≤ α 0 3 by omega)]
      rfl
    · rw [if_neg (fun z => g ((lt (by omega) (by omega)).mp z)), if_pos (show α 0 2 ≤ α 0 3 by omega)]
      rfl
  · rw [if_neg (show ¬ nI 3 = (0 : Int32) by decide), if_neg (show ¬ nI 3 = (1 : Int32) by decide), if_neg (show ¬ nI 3 = (2 : Int32) by decide), if_pos (show nI 3 = 3 from rfl), if_neg (show ¬ (3 : Nat) = 0 by decide), if_neg (show ¬ (3 : Nat) = 1 by decide), if_neg (show ¬ (3 : Nat) = 2 by decide), if_pos rfl]
    by_cases g : 0 < α 0 3
    · rw [if_pos (show (0 : Int32) < nI (α 0 3) from (lt (a := 0) (by omega) (by omega)).mpr g), if_pos (Or.inl g)]
      rfl
    · rw [if_neg (show ¬ (0 : Int32) < nI (α 0 3) from fun z => g ((lt (a := 0) (by omega) (by omega)).mp z))]
      cases fl with
      | true =>
        rw [if_pos (Or.inr rfl)]
        rfl
      | false =>
        rw [if_neg (show ¬ (0 < α 0 3 ∨ false = true) from fun z => by rcases z with z | z; exact g z; cases z)]
        rfl
  · rw [if_neg (show ¬ nI 4 = (0 : Int32) by decide), if_neg (show ¬ nI 4 = (1 : Int32) by decide), if_neg (show ¬ nI 4 = (2 : Int32) by decide), if_neg (show ¬ nI 4 = (3 : Int32) by decide), if_pos (show nI 4 = 4 from rfl), if_neg (show ¬ (4 : Nat) = 0 by decide), if_neg (show ¬ (4 : Nat) = 1 by decide), if_neg (show ¬ (4 : Nat) = 2 by decide), if_neg (show ¬ (4 : Nat) = 3 by decide), if_pos rfl]
    by_cases g : α 0 4 < 12
    · rw [if_pos (show nI (α 0 4) < (12 : Int32) from (lt (b := 12) (by omega) (by omega)).mpr g), if_neg (show ¬ 12 ≤ α 0 4 by omega)]
      rfl
    · rw [if_neg (show ¬ nI (α 0 4) < (12 : Int32) from fun z => g ((lt (b := 12) (by omega) (by omega)).mp z)), if_pos (show 12 ≤ α 0 4 by omega)]
      rfl
  · rw [if_neg (show ¬ nI 5 = (0 : Int32) by decide), if_neg (show ¬ nI 5 = (1 : Int32) by decide), if_neg (show ¬ nI 5 = (2 : Int32) by decide), if_neg (show ¬ nI 5 = (3 : Int32) by decide), if_neg (show ¬ nI 5 = (4 : Int32) by decide), if_neg (show ¬ (5 : Nat) = 0 by decide), if_neg (show ¬ (5 : Nat) = 1 by decide), if_neg (show ¬ (5 : Nat) = 2 by decide), if_neg (show ¬ (5 : Nat) = 3 by decide), if_neg (show ¬ (5 : Nat) = 4 by decide)]
    by_cases g : α 0 5 < 12
    · rw [if_pos (show nI (α 0 5) < (12 : Int32) from (lt (b := 12) (by omega) (by omega)).mpr g), if_neg (show ¬ 12 ≤ α 0 5 by omega)]
      rfl
    · rw [if_neg (show ¬ nI (α 0 5) < (12 : Int32) from fun z => g ((lt (b := 12) (by omega) (by omega)).mp z)), if_pos (show 12 ≤ α 0 5 by omega)]
      rfl
theorem p_clause {L : List Nat} {α : sA} {fl : Bool} {c p : Nat} (ha : okA α) (hc : c ≤ 60) {v : zV} (h : rdC L (.inl p) v) (hd : dAc α fl v) : ∃ w, fX0_readClause 13 1 (nI c) v = some w ∧ rdC L (tCl L c (α, fl) (.inl p)).2 w ∧ (∀ q, (tCl L c (α, fl) (.inl p)).2 = .inl q → dAc (tCl L c (α, fl) (.inl p)).1.1 (tCl L c (α, fl) (.inl p)).1.2 w ∧ okA (tCl L c (α, fl) (.inl p)).1.1) ∧ fr7 v w := by
  obtain ⟨x, u0, hu0, hx, R0, -, f0⟩ := p_lookAt h
  obtain ⟨u1, hu1, R1, f1⟩ := p_kindC R0
  have f01 := fr1_tr f0 f1
  have hd1 := dAc_1 hd f01
  unfold fX0_readClause tCl
  rw [hu0, zbind_some, hu1, zbind_some]
  cases ek : (tKd L (.inl p)).1 with
  | none =>
    have e2 := (tKd_none ek).1
    rw [e2] at R1
    obtain ⟨w, hw, wR, wf⟩ := p_fail R1 (k := 1) (pl := p) (by decide) (y := x) (fun _ _ => hx p rfl)
    refine ⟨w, ?_, wR, fun q hq => absurd (show tFl (.inl p) 1 p = .inl q from hq) tFl_no, fr7_1 (fr1_tr f01 wf)⟩
    rw [if_pos (show oI none = (-1 : Int32) from rfl), show (1 : Int32) = nI 1 from rfl, hw, zbindv_some]
  | some k =>
    obtain ⟨k6, p', ep, ip, e2⟩ := tKd_lt ek
    have kn : ¬ oI (some k) = (-1 : Int32) := fun z => by
      have := (ng_eq (a := k) (k := 1) (by omega) (by decide) (by decide))
      have z2 : nI k = -nI 1 := z
      rw [this] at z2
      exact z2
    dsimp only
    rw [if_neg kn]
    have hF : ∃ s, (if nI c < (60 : Int32) then
      zbind (fX0_faultOf 13 (oI (some k)) u1) fun r_6 v_5 =>
      fX0_readClause_40 13 1 x (oI (some k)) r_6 v_5
    else
      fX0_readClause_40 13 1 x (oI (some k)) (3 : Int32) u1) = fX0_readClause_40 13 1 x (nI k) (nI s) u1 ∧ s = tFo α fl c k := by
      by_cases g : c < 60
      · refine ⟨tFo α fl c k, ?_, rfl⟩
        rw [if_pos (show nI c < (60 : Int32) from (nI_lt' (b := 60) (by omega) (by omega)).mpr g), oI_some, p_faultC k6 g ha hd1, zbind_some]
      · refine ⟨3, ?_, ?_⟩
        · rw [if_neg (show ¬ nI c < (60 : Int32) from fun z => g ((nI_lt' (b := 60) (by omega) (by omega)).mp z))]
          rfl
        · unfold tFo
          rw [if_pos (show 60 ≤ c by omega)]
    obtain ⟨s, hs, es⟩ := hF
    rw [hs, es]
    unfold fX0_readClause_40
    by_cases g : tFo α fl c k = 0
    · rw [if_pos g, g, if_pos (show nI 0 = 0 from rfl)]
      have fin : ∀ (f : zV → Option zV), cRd L k f → ∃ w, (zbindv (f u1) fun v_1 => zbindv (fX8_sign 1 (59 : Int32) v_1) fun v_2 => some v_2) = some w ∧ rdC L (tSg L 59 (rdA L k α (tKd L (.inl p)).2).2) w ∧ (∀ q, tSg L 59 (rdA L k α (tKd L (.inl p)).2).2 = .inl q → dAc (rdA L k α (tKd L (.inl p)).2).1 (fl || decide (k = 3)) w ∧ okA (rdA L k α (tKd L (.inl p)).2).1) ∧ fr7 v w := by
        intro f hf
        obtain ⟨u2, hu2, R2, d2, f2⟩ := hf α fl c (tKd L (.inl p)).2 u1 ha g R1 hd1
        obtain ⟨w, hw, wR, wf⟩ := p_sign R2 (c := 59) (by decide)
        refine ⟨w, ?_, wR, fun q hq => ?_, fr7_tr (fr7_1 f01) (fr7_tr f2 (fr7_1 wf))⟩
        · rw [hu2, zbindv_some, show (59 : Int32) = nI 59 from rfl, hw, zbindv_some]
        · obtain ⟨p3, e3, -⟩ := tSg_lt hq
          exact ⟨dAc_1 (d2 p3 e3) wf, okA_rd k6 ha g e3⟩
      have : k = 0 ∨ k = 1 ∨ k = 2 ∨ k = 3 ∨ k = 4 ∨ k = 5 := by omega
      rcases this with rfl | rfl | rfl | rfl | rfl | rfl
      · rw [if_pos (show nI 0 = 0 from rfl)]
        exact fin _ (p_question L)
      · rw [if_neg (show ¬ nI 1 = (0 : Int32) by decide), if_pos (show nI 1 = 1 from rfl)]
        exact fin _ (p_manR L)
      · rw [if_neg (show ¬ nI 2 = (0 : Int32) by decide), if_neg (show ¬ nI 2 = (1 : Int32) by decide), if_pos (show nI 2 = 2 from rfl)]
        exact fin _ (p_seatR L)
      · rw [if_neg (show ¬ nI 3 = (0 : Int32) by decide), if_neg (show ¬ nI 3 = (1 : Int32) by decide), if_neg (show ¬ nI 3 = (2 : Int32) by decide), if_pos (show nI 3 = 3 from rfl)]
        exact fin _ (p_chairsR L)
      · rw [if_neg (show ¬ nI 4 = (0 : Int32) by decide), if_neg (show ¬ nI 4 = (1 : Int32) by decide), if_neg (show ¬ nI 4 = (2 : Int32) by decide), if_neg (show ¬ nI 4 = (3 : Int32) by decide), if_pos (show nI 4 = 4 from rfl)]
        exact fin _ (p_deathR L)
      · rw [if_neg (show ¬ nI 5 = (0 : Int32) by decide), if_neg (show ¬ nI 5 = (1 : Int32) by decide), if_neg (show ¬ nI 5 = (2 : Int32) by decide), if_neg (show ¬ nI 5 = (3 : Int32) by decide), if_neg (show ¬ nI 5 = (4 : Int32) by decide)]
        exact fin _ (p_praiseR L)
    · have h4 := tFo_le α fl c k
      obtain ⟨w, hw, wR, wf⟩ := p_fail R1 (k := tFo α fl c k) (pl := p) ⟨by omega, h4⟩ (y := x) (fun _ _ => hx p rfl)
      rw [if_neg g, if_neg (show ¬ nI (tFo α fl c k) = 0 from fun z => g ((nI_is0 (by omega)).mp z)), hw, zbindv_some]
      exact ⟨w, rfl, wR, fun q hq => absurd (show tFl (tKd L (.inl p)).2 (tFo α fl c k) p = .inl q from hq) tFl_no, fr7_1 (fr1_tr f01 wf)⟩
theorem p_acadL {L : List Nat} : ∀ (d n c : Nat) (s : sA × Bool) (τ : rdE) (v : zV), c + d = 61 → d < n → rdC L τ v → (∀ p, τ = .inl p → dAc s.1 s.2 v ∧ okA s.1) → ∃ w, fX0_read_38 n 13 1 (nI c) v = some w ∧ rdC L (tAc L d c s τ).2 w ∧ (∀ q, (tAc L d c s τ).2 = .inl q → dAc (tAc L d c s τ).1.1 (tAc L d c s τ).1.2 w ∧ okA (tAc L d c s τ).1.1) ∧ fr7 v w := by
  intro d
  induction d with
  | zero =>
    intro n c s τ v e hn h hd
    obtain ⟨n, rfl⟩ : ∃ k, n = k + 1 := ⟨n - 1, by omega⟩
    refine ⟨v, ?_, h, fun q hq => hd q hq, fr7_1 (fr1_rf v)⟩
    rw [fX0_read_38]
    dsimp only
    rw [if_pos (show (60 : Int32) < nI c from (nI_lt' (a := 60) (by omega) (by omega)).mpr (by omega))]
  | succ d ih =>
    intro n c s τ v e hn h hd
    obtain ⟨n, rfl⟩ : ∃ k, n = k + 1 := ⟨n - 1, by omega⟩
    obtain ⟨u, hu, uR, uX, ua, uk⟩ := p_look h
    have uf := lk_fr ua uk
    have h60 : ¬ (60 : Int32) < nI c := fun z => by have := (nI_lt' (a := 60) (by omega) (by omega)).mp z; omega
    cases τ with
    | inr f =>
      refine ⟨u, ?_, uR, fun q hq => (by cases hq), fr7_1 uf⟩
      rw [fX0_read_38]
      dsimp only
      rw [if_neg h60, hu, zbind_some, if_pos (show tLk L (.inr f) = (-1 : Int32) from rfl)]
    | inl p =>
      obtain ⟨hd0, ha⟩ := hd p rfl
      by_cases g : p < L.length
      · have e1 : tAc L (d + 1) c s (.inl p) = tAc L d (c + 1) (tCl L c s (.inl p)).1 (tCl L c s (.inl p)).2 := if_pos g
        rw [e1]
        obtain ⟨w, hw, wR, wq, wf⟩ := p_clause (c := c) ha (by omega) uR (dAc_1 hd0 uf)
        obtain ⟨z, hz, zR, zd, zf⟩ := ih n (c + 1) (tCl L c s (.inl p)).1 (tCl L c s (.inl p)).2 w (by omega) (by omega) wR (fun q hq => wq q hq)
        refine ⟨z, ?_, zR, zd, fr7_tr (fr7_1 uf) (fr7_tr wf zf)⟩
        rw [fX0_read_38]
        dsimp only
        have hb : bA L p < 256 := (uR.1.2.2 p g).2
        rw [if_neg h60, hu, zbind_some, if_neg (show ¬ tLk L (.inl p) = (-1 : Int32) from fun q => by
          have q2 : nI (bA L p) = -nI 1 := (if_pos g : bQt L p = nI (bA L p)).symm.trans q
          have := (ng_eq (a := bA L p) (k := 1) (by omega) (by decide) (by decide))
          rw [this] at q2
          exact q2), hw, zbindv_some, show (nI c + 1 : Int32) = nI (c + 1) from nI_add _ 1]
        exact hz
      · have e1 : tAc L (d + 1) c s (.inl p) = (s, .inl p) := if_neg g
        rw [e1]
        refine ⟨u, ?_, uR, fun q hq => ⟨dAc_1 hd0 uf, ha⟩, fr7_1 uf⟩
        rw [fX0_read_38]
        dsimp only
        rw [if_neg h60, hu, zbind_some, if_pos (show tLk L (.inl p) = (-1 : Int32) from if_neg g)]
theorem okA_0 : okA α0n := by
  have e : ∀ a b, α0n a b = if a = 0 ∧ b = 2 then 6 else 0 := fun a b => rfl
  refine ⟨⟨by decide, by decide, by decide, by decide, by decide, by decide, by decide⟩, fun q hq => absurd hq (Nat.not_lt_zero q), fun q hq => absurd hq (Nat.not_lt_zero q), fun q hq => absurd hq (Nat.not_lt_zero q), fun c d _ hq => absurd hq (Nat.not_lt_zero d), fun q hq => absurd hq (Nat.not_lt_zero q), fun q hq => absurd hq (Nat.not_lt_zero q), fun q hq => absurd hq (Nat.not_lt_zero q)⟩
theorem p_acadRead {L : List Nat} {τ : rdE} {v : zV} (h : rdC L τ v) : ∃ w, fX0_read 13 1 v = some w ∧ rdC L (tAc L 61 0 (α0n, false) τ).2 w ∧ (∀ q, (tAc L 61 0 (α0n, false) τ).2 = .inl q → dAc (tAc L 61 0 (α0n, false) τ).1.1 (tAc L 61 0 (α0n, false) τ).1.2 w ∧ okA (tAc L 61 0 (α0n, false) τ).1.1) ∧ fr7 v w := by
  have e : ∀ k, (zup (zup (zup (zup (zup (zup (zup v 13 0 0) 13 1 0) 13 2 6) 13 3 0) 13 4 0) 13 5 0) 13 6 0) 13 k = if k = 6 then 0 else if k = 5 then 0 else if k = 4 then 0 else if k = 3 then 0 else if k = 2 then 6 else if k = 1 then 0 else if k = 0 then 0 else v 13 k := fun k => by
    simp only [p_up, true_and]
  have ea : ∀ a, a ≠ 13 → (zup (zup (zup (zup (zup (zup (zup v 13 0 0) 13 1 0) 13 2 6) 13 3 0) 13 4 0) 13 5 0) 13 6 0) a = v a := fun a g => by
    rw [p_up_a _ _ _ g, p_up_a _ _ _ g, p_up_a _ _ _ g, p_up_a _ _ _ g, p_up_a _ _ _ g, p_up_a _ _ _ g, p_up_a _ _ _ g]
  unfold fX0_read
  rw [zlet_eq, zlet_eq, zlet_eq, zlet_eq, zlet_eq, zlet_eq, zlet_eq]
  generalize (zup (zup (zup (zup (zup (zup (zup v 13 0 0) 13 1 0) 13 2 6) 13 3 0) 13 4 0) 13 5 0) 13 6 0) = u at e ea
  obtain ⟨w, hw, wR, wd, wf⟩ := p_acadL 61 zFU 0 (α0n, false) τ u rfl (by unfold zFU; omega) (rdC_7 h (fun a g => ea a (by omega))) (fun p _ => ⟨⟨⟨⟨by rw [e 0]; rfl, by rw [e 1]; rfl, by rw [e 2]; rfl, by rw [e 3]; rfl, by rw [e 4]; rfl, by rw [e 5]; rfl⟩, fun q hq => absurd hq (Nat.not_lt_zero q), fun q hq => absurd hq (Nat.not_lt_zero q), fun q hq => absurd hq (Nat.not_lt_zero q), fun q hq => absurd hq (Nat.not_lt_zero q), fun q hq => absurd hq (Nat.not_lt_zero q), fun q hq => absurd hq (Nat.not_lt_zero q)⟩, by rw [e 6]; rfl⟩, okA_0⟩)
  exact ⟨w, hw, wR, wd, fr7_tr (fr7_up (fun a g => ea a (by omega))) wf⟩
end
