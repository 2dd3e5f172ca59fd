/-! QUORUM, RING, RINGED -/
section
theorem oI_inj {a b : Option Nat} (ha : ∀ m, a = some m → m < 2 ^ 31) (hb : ∀ m, b = some m → m < 2 ^ 31) : (oI a = oI b) = (a = b) := by
  cases a with
  | none =>
    cases b with
    | none => exact propext ⟨fun _ => rfl, fun _ => rfl⟩
    | some m =>
      have := hb m rfl
      rw [oI_none, oI_some, ng_eq2 this (by decide) (by decide)]
      exact propext ⟨fun q => q.elim, fun q => by cases q⟩
  | some x =>
    have hx := ha x rfl
    cases b with
    | none =>
      rw [oI_none, oI_some, ng_eq hx (by decide) (by decide)]
      exact propext ⟨fun q => q.elim, fun q => by cases q⟩
    | some m =>
      have := hb m rfl
      rw [oI_some, oI_some, nI_eq' hx this]
      exact propext ⟨fun q => by rw [q], fun q => by cases q; rfl⟩
def sQuS (f : Nat → Option Nat) (all : Option Nat) (j x : Nat) : Nat := if f (j + 1) = all then (if x = 0 then j + 1 else x) else 0
def sQd (f : Nat → Option Nat) (all : Option Nat) : Nat → Nat
  | 0 => 0
  | 1 => 1
  | n + 2 => if f (n + 1) = all then sQd f all (n + 1) else n + 2
theorem sQd_2 (f : Nat → Option Nat) (all : Option Nat) (n : Nat) : sQd f all (n + 1 + 1) = if f (n + 1) = all then sQd f all (n + 1) else n + 2 := rfl
theorem sQd_pos (f : Nat → Option Nat) (all : Option Nat) : ∀ n, 0 < sQd f all (n + 1) := by
  intro n
  induction n with
  | zero => exact Nat.one_pos
  | succ n ih =>
    show 0 < if f (n + 1) = all then sQd f all (n + 1) else n + 2
    split
    · exact ih
    · omega
theorem sQu_eq (f : Nat → Option Nat) (all : Option Nat) : ∀ n, f (n + 1) = all → zit (sQuS f all) (n + 1) 0 0 = sQd f all (n + 1) := by
  intro n
  induction n with
  | zero =>
    intro h
    show sQuS f all 0 0 = 1
    unfold sQuS
    rw [if_pos h, if_pos rfl]
  | succ n ih =>
    intro h
    rw [zit_end, Nat.zero_add]
    show (if f (n + 1 + 1) = all then (if zit (sQuS f all) (n + 1) 0 0 = 0 then n + 1 + 1 else zit (sQuS f all) (n + 1) 0 0) else 0) = if f (n + 1) = all then sQd f all (n + 1) else n + 2
    rw [if_pos h]
    by_cases e : f (n + 1) = all
    · have := sQd_pos f all n
      rw [if_pos e, ih e, if_neg (by omega)]
    · have h0 : zit (sQuS f all) (n + 1) 0 0 = 0 := by
        rw [zit_end, Nat.zero_add]
        exact if_neg e
      rw [if_neg e, h0, if_pos rfl]
def sQuorum (α : sA) (ρ : sR) (q : Nat) : Nat := sQd (sVote α ρ q 1 0) (sVote α ρ q 1 0 (sCh ρ).length) (sCh ρ).length
theorem sVote_lt {α : sA} {ρ : sR} {q k r n : Nat} : ∀ m, sVote α ρ q k r n = some m → m < 2 ^ 31 := fun m hm => by
  have := sLd_lt hm
  omega
theorem p_quorum {v : zV} {α : sA} {l : sL} {ρ : sR} (h : CQ v α l ρ) (ho : OKs α l ρ) {q : Nat} (hq : q < α 0 0) : ∃ w, fX3_quorumOf 96 (nI q) v = some (nI (sQuorum α ρ q), w) ∧ ∀ a, a ≠ 97 → w a = v a := by
  have hb := bdC_of ho
  have b3 := hb.1.2.2
  obtain ⟨w, hw, hwt, hwa⟩ := p_vote h ho hq (k := 1) (r := 0) ⟨by decide, by decide⟩ (by decide)
  obtain ⟨u, hu, hu0, hua⟩ := p_clear w
  have hv0 : ∀ a, a ≠ 97 → u a = v a := fun a g => (hua a g).trans (hwa a g)
  unfold fX3_quorumOf
  rw [i_0, i_1, hw, zbind_some, hu, zbindv_some]
  have := lpR (fun n j (x : Nat) v => fX3_quorumOf_17 n 96 (nI q) (oI (sVote α ρ q 1 0 (sCh ρ).length)) (nI x) (nI j) v) (sQuS (sVote α ρ q 1 0) (sVote α ρ q 1 0 (sCh ρ).length)) (sCh ρ).length (fun j x w => (∀ s, s < 3 → w 97 s = nI (sVt α ρ q 1 0 j s)) ∧ (∀ a, a ≠ 97 → w a = v a) ∧ x ≤ 13) (fun x p => p.1 = nI x ∧ ∀ a, a ≠ 97 → p.2 a = v a) (fun n1 x w hK => ?_) (fun n1 j x w hj hK => ?_) (sCh ρ).length zFU 0 0 u (Nat.zero_add _) (by unfold zFU; omega) ⟨hu0, hv0, by decide⟩
  · obtain ⟨⟨p1, p2⟩, h1, h2, h3⟩ := this
    subst h2
    refine ⟨p2, h1.trans ?_, h3⟩
    unfold sQuorum
    rcases Nat.eq_zero_or_pos (sCh ρ).length with h0 | h0
    · rw [h0]
      rfl
    · obtain ⟨m, hm⟩ : ∃ m, (sCh ρ).length = m + 1 := ⟨(sCh ρ).length - 1, by omega⟩
      rw [hm, sQu_eq (sVote α ρ q 1 0) _ m rfl]
  · obtain ⟨hwt, hwa, hx⟩ := hK
    have hl := (eqC_fr h ho hwa).2.1
    refine ⟨(nI x, w), ?_, rfl, hwa⟩
    show fX3_quorumOf_17 (n1 + 1) 96 (nI q) _ (nI x) (nI (sCh ρ).length) w = _
    rw [fX3_quorumOf_17]
    dsimp only
    rw [rf_96_1, hl, if_pos (Int32.le_refl _)]
  · obtain ⟨hwt, hwa, hx⟩ := hK
    have hE := eqC_fr h ho hwa
    have hl := hE.2.1
    obtain ⟨y, hy, hyt, hya⟩ := p_addT hE hb hq hj _ hwt
    have hyt2 : ∀ s, s < 3 → y 97 s = nI (sVt α ρ q 1 0 (j + 1) s) := fun s hs => by
      rw [hyt s hs]
      show _ = nI (sVt α ρ q 1 0 j s + if (decide (j % 1 = 0) && decide (α (10 + (sCh ρ).getD j 0) q = s)) = true then 1 else 0)
      rw [decide_eq_true (Nat.mod_one j), Bool.true_and]
      simp only [decide_eq_true_eq]
    have hya2 : ∀ a, a ≠ 97 → y a = v a := fun a g => (hya a g).trans (hwa a g)
    have hld := p_leading hyt2 (fun s => by have := sVt_le α ρ q 1 0 (j + 1) s; omega)
    have hx2 : sQuS (sVote α ρ q 1 0) (sVote α ρ q 1 0 (sCh ρ).length) j x ≤ 13 := by
      unfold sQuS
      split
      · split <;> omega
      · omega
    show ∃ z, fX3_quorumOf_17 (n1 + 1) 96 (nI q) _ (nI x) (nI j) w = fX3_quorumOf_17 n1 96 (nI q) _ (nI _) (nI (j + 1)) z ∧ _
    refine ⟨y, ?_, hyt2, hya2, hx2⟩
    rw [fX3_quorumOf_17]
    dsimp only
    rw [rf_96_1, hl, if_neg (nI_ge hj (by omega))]
    unfold fX3_quorumOf_38
    rw [hy]
    have hld2 : fX3_leadingSide 96 y = some (oI (sVote α ρ q 1 0 (j + 1)), y) := hld
    unfold sQuS
    simp (disch := omega) only [zbindv_some, hld2, zbind_some, oI_inj sVote_lt sVote_lt, i_0, i_1, nI_le', nI_add, nI_eq', ↓reduceIte]
    by_cases e : sVote α ρ q 1 0 (j + 1) = sVote α ρ q 1 0 (sCh ρ).length
    · simp only [if_pos e]
      by_cases e2 : x = 0
      · rw [if_pos (by omega), if_pos e2]
      · rw [if_neg (by omega), if_neg e2]
        rw [if_neg (show ¬ (1 : Nat) = 0 by decide)]
    · simp only [if_neg e]
      split <;> rfl
theorem p_mQuorumL {v : zV} {α : sA} {l : sL} {ρ : sR} (h : MQ' v α l ρ) (ho : OKs α l ρ) {q : Nat} (hq : q < α 0 0) (all : Option Nat) (hall : ∀ m, all = some m → m < 2 ^ 31) : ∀ (n n1 : Nat) (u : zV), n ≤ (sCh ρ).length → n < n1 → (∀ a, a ≠ 602 → u a = v a) → ∃ w, fX10_quorum_46 n1 116 (nI q) (nI n) (oI all) u = some (nI (sQd (sVote α ρ q 1 0) all n), w) ∧ ∀ a, a ≠ 602 → w a = v a := by
  have b3 := (bdC_of ho).1.2.2
  intro n
  induction n with
  | zero =>
    intro n1 u hn hn1 hu
    obtain ⟨n1, rfl⟩ : ∃ k, n1 = k + 1 := ⟨n1 - 1, by omega⟩
    refine ⟨u, ?_, hu⟩
    rw [fX10_quorum_46]
    dsimp only
    rw [if_pos (by decide)]
    rfl
  | succ n ih =>
    intro n1 u hn hn1 hu
    obtain ⟨n1, rfl⟩ : ∃ k, n1 = k + 1 := ⟨n1 - 1, by omega⟩
    rw [fX10_quorum_46]
    dsimp only
    cases n with
    | zero =>
      refine ⟨u, ?_, hu⟩
      rw [if_pos (by decide)]
      rfl
    | succ n =>
      obtain ⟨w, hw, -, hwa⟩ := p_mVote (MQ'_f ho.1 ho.2.1 h (frM_c (r := 602) (by decide) (by decide) hu)) ho hq (k := 1) (r := 0) (n0 := n + 1) ⟨by decide, by decide⟩ (by decide) (by omega)
      have hwa2 : ∀ a, a ≠ 602 → w a = v a := fun a g => (hwa a g).trans (hu a g)
      rw [i_1, i_0, if_neg (show ¬ nI (n + 1 + 1) ≤ nI 1 from nI_ge (by omega) (by omega)), nI_sub' (by omega), show n + 1 + 1 - 1 = n + 1 by omega, hw, zbind_some]
      simp only [oI_inj (sVote_lt (α := α) (ρ := ρ) (q := q) (k := 1) (r := 0) (n := n + 1)) hall]
      rw [sQd_2]
      by_cases e : sVote α ρ q 1 0 (n + 1) = all
      · obtain ⟨x, hx, hxa⟩ := ih n1 w (by omega) (by omega) hwa2
        refine ⟨x, ?_, hxa⟩
        rw [if_pos e, if_pos e, nI_addg (by omega)]
        exact hx
      · refine ⟨w, ?_, hwa2⟩
        rw [if_neg e, if_neg e]
theorem p_mQuorum {v : zV} {α : sA} {l : sL} {ρ : sR} (h : MQ' v α l ρ) (ho : OKs α l ρ) {q : Nat} (hq : q < α 0 0) : ∃ w, (zbind (fX10_voteOf 116 (nI q) 1 0 (nI (sCh ρ).length) v) fun r_4 v_3 => fX10_quorum_46 zFU 116 (nI q) (nI (sCh ρ).length) r_4 v_3) = some (nI (sQuorum α ρ q), w) ∧ ∀ a, a ≠ 602 → w a = v a := by
  have b3 := (bdC_of ho).1.2.2
  obtain ⟨w, hw, hwt, hwa⟩ := p_mVote h ho hq (k := 1) (r := 0) ⟨by decide, by decide⟩ (by decide) (Nat.le_refl _)
  rw [show fX10_voteOf 116 (nI q) 1 0 (nI (sCh ρ).length) v = _ from hw, zbind_some]
  exact p_mQuorumL h ho hq _ sVote_lt (sCh ρ).length zFU w (Nat.le_refl _) (by unfold zFU; omega) hwa
end
