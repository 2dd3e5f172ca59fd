/-! WHAT CHANGES THE STATE, call by call: die, praise, image, restore -/
section
theorem sFall_3 (α : sA) (c : Nat) : ∀ (d : Nat) (ρ : sR), sSc ρ 3 ≤ sSc (sFall α c d ρ) 3 ∧ sSc (sFall α c d ρ) 3 ≤ sSc ρ 3 + d := by
  intro d
  induction d with
  | zero => intro ρ; exact ⟨Nat.le_refl _, Nat.le_refl _⟩
  | succ d ih =>
    intro ρ
    rw [sFall]
    split
    · obtain ⟨h1, h2⟩ := ih (sLeave ρ c)
      have e : sSc (sLeave ρ c) 3 = sSc ρ 3 + 1 := sUp_s (sSc ρ) 3 (sSc ρ 3 + 1)
      rw [e] at h1 h2
      omega
    · omega
theorem sKill_gone {ρ : sR} {α : sA} {m : Nat} (h : ¬ sSt ρ m = 3) : sSc ρ 3 ≤ sSc (sKill α ρ m) 3 ∧ sSc (sKill α ρ m) 3 ≤ sSc ρ 3 + 13 := by
  have hD : sSc (sDead ρ m) 3 = sSc ρ 3 := sUp_n (sSc ρ) (k := 4) (j := 3) (sSc ρ 4 + 1) (by decide)
  unfold sKill
  rw [if_neg h]
  split
  · omega
  · rename_i c _
    obtain ⟨h1, h2⟩ := sFall_3 α c 13 (sGap (sDead ρ m) c)
    have e : sSc (sGap (sDead ρ m) c) 3 = sSc (sDead ρ m) 3 := rfl
    omega
theorem c102 : (102 : Int32).toNatClampNeg = 102 := Eq.trans rfl rfl
theorem zx102 {β : Type} {k : Option β} : zix 102 305 k = k := Eq.trans rfl rfl
theorem sKill_y (α : sA) (ρ : sR) (m : Nat) : sSc (sKill α ρ m) 0 = sSc ρ 0 := (sKill_asv α ρ m).2
theorem case_17 {v : zV} (hInv : sInv v) (p1 : Int32) : ∃ w, fLc_17 p1 v = some w ∧ sInv w := by
  obtain ⟨α, l, β, ρ, ρb, im, tp, pl, r0, r1, hs, hI, hM⟩ := hInv
  have ha := hs.1
  have hl := hs.2.1
  have hbk := hs.2.2.1
  have hQ : CQ v α l ρ := ⟨hI.1, hI.2.2.1⟩
  have hO : OKs α l ρ := ⟨ha, hl, hs.2.2.2.1.1, hs.2.2.2.1.2⟩
  have hi := hs.2.2.2.2.2.2.1.1
  have hy := hs.2.2.2.1.2
  have oC : okC ρ := okW_C ha (ok_13 ha) hO.2.2.1
  have q1 : v 3 1 = nI (α 0 1) := hI.1.1.1.2.1
  have q0 : v 3 0 = nI (α 0 0) := hI.1.1.1.1
  have M16 : α 0 1 ≤ 16 := ha.1.2.1
  have Q6 : α 0 0 ≤ 6 := ha.1.1
  show ∃ w, zTail (zcatch (fX9_die 0 p1 v) 603 (some 1) none) (fX10_die 116 p1) = some w ∧ sInv w
  by_cases h0 : inN p1 (α 0 1)
  case neg =>
    exact tl_N (z1 := 0) (y := 1) (z := 0) hs hI hM (by decide) (by unfold fX9_die; rw [(p_needMan (x := p1) q1 M16).2 h0, zbx_1]) (by decide) ⟨fun _ => rfl, fun h => absurd h (by decide)⟩ (fun v2 b2 => by
      obtain ⟨g0, g1, g2, gQ, gD, gE⟩ := qM0 hs b2
      refine ⟨_, ?_, rfM_up v2 1 0⟩
      unfold fX10_die fX10_die_19
      rw [zlet_eq, pmanN (x := p1) g1 M16 h0, zbind_some, if_pos (show (0 : Int32) = 0 from rfl), pb1_10 g0, zbind_some, if_neg (show ¬ (1 : Int32) = 0 by decide)]
      rfl)
  obtain ⟨m, ml, rfl⟩ := id h0
  obtain ⟨t, ht, htR, hto⟩ := p_kill r37 ha (ok_13 ha) hI.1.1 hI.2.2.1 hO.2.2.1 ml
  by_cases c : sSt ρ m = 3
  · have hK : sKill α ρ m = ρ := by unfold sKill; rw [if_pos c]
    rw [hK] at ht htR
    have hG : sGone ρ ρ m = 0 := by unfold sGone; rw [if_pos c]
    rw [hG] at ht
    refine tl_G hs hs hM (v1 := t) (r := nI 0) (by unfold fX9_die; rw [(p_needMan (x := (nI m)) q1 M16).1 h0, zbx_0, rf_0_11, rf_0_7, ht, zbind_some, if_pos (show nI 0 ≤ 0 by decide)]) (fun a g1 g2 => hto a (by omega)) (IC_row hi hI (fun a g1 g2 g3 g4 g5 => hto a (by omega)) htR (RC_fr hI.2.2.2.1 (fun a g1 g2 => hto a (by omega)))) (fun v2 b2 => ?_)
    obtain ⟨g0, g1, g2, gQ, gD, gE⟩ := qM0 hs b2
    refine ⟨zup v2 116 0 0, ?_, g0, fun a g => p_up_a _ _ _ (by omega), IM_f ha hl hbk.1 hi b2 (fun a g1 _ _ _ => p_up_a _ _ _ (by omega)) (fun k g _ _ _ _ _ _ _ => p_up_n _ _ (Or.inr g))⟩
    unfold fX10_die fX10_die_19
    rw [zlet_eq, pmanY (x := (nI m)) g1 M16 h0, zbind_some, if_neg (show ¬ (1 : Int32) = 0 by decide), pb0 g0, zbind_some, if_pos (show (0 : Int32) = 0 from rfl), rf_116_35, Int32.zero_add, l567, zix_nI (by omega) (by omega), nI_cl' (by omega), gQ.2.1.2.1 m (by omega), c, if_pos (show nI 3 = 3 from rfl)]
    rfl
  · have hG : sGone ρ (sKill α ρ m) m = 1 + (sSc (sKill α ρ m) 3 - sSc ρ 3) := by unfold sGone; rw [if_neg c]
    obtain ⟨hle, hle2⟩ := sKill_gone (α := α) c
    have hk := okW_kill hO.2.2.1 ml
    have hky := sKill_y α ρ m
    obtain ⟨t2, ht2, htR2, hto2⟩ := p_rowCopy r43.1 r37.1 (Or.inl (by decide)) htR (by have := hk.1; have := ha.1.2.2.2.1; omega)
    have hs' : okS α l β (sKill α ρ m) (sKill α ρ m) im tp := ⟨ha, hl, hbk, ⟨hk, by omega⟩, hk, ⟨0, rfl, rfl, sFrs_r hs (sKill_9 α ρ m)⟩, hs.2.2.2.2.2.2⟩
    have gp : ¬ nI (sGone ρ (sKill α ρ m) m) ≤ 0 := fun gp => by
      have := (nI_le' (a := sGone ρ (sKill α ρ m) m) (b := 0) (by rw [hG]; omega) (by omega)).mp gp
      rw [hG] at this
      omega
    refine tl_G hs hs' hM (v1 := t2) (r := nI (sGone ρ (sKill α ρ m) m)) (by unfold fX9_die; rw [(p_needMan (x := (nI m)) q1 M16).1 h0, zbx_0, rf_0_11, rf_0_7, ht, zbind_some, if_neg gp, rf_0_8, ht2, zbindv_some]) (fun a g1 g2 => (hto2 a (by omega)).trans (hto a (by omega))) (IC_row hi hI (fun a g1 g2 g3 g4 g5 => (hto2 a (by omega)).trans (hto a (by omega))) (RC_fr htR (fun a g1 g2 => hto2 a (by omega))) htR2) (fun v2 b2 => ?_)
    obtain ⟨g0, g1, g2, gQ, gD, gE⟩ := qM0 hs b2
    obtain ⟨x, hx, hxR, hxo⟩ := p_mDies ha m567 (ok_13 ha) gQ.1.1 gQ.2.1 hO.2.2.1 ml
    obtain ⟨w, hw, w7, w8, w41, wa, wk⟩ := p_mSettles hxR
    have ea : ∀ a, a ≠ 116 → a ≠ 567 → a ≠ 568 → w a = v2 a := fun a g1 g2 g3 => (wa a g1 g3).trans ((hxo a g2).trans (p_up_a _ _ _ g1))
    have ek : ∀ k, k ≠ 0 → k ≠ 41 → w 116 k = v2 116 k := fun k g1 g2 => (wk k g2).trans (by rw [hxo 116 (by decide), p_up_n _ _ (Or.inr g1)])
    refine ⟨w, ?_, by rw [wk 0 (by decide), hxo 116 (by decide), g0], fun a g => ea a (by omega) (by omega) (by omega), ?_⟩
    · unfold fX10_die fX10_die_19
      rw [zlet_eq, pmanY (x := (nI m)) g1 M16 h0, zbind_some, if_neg (show ¬ (1 : Int32) = 0 by decide), pb0 g0, zbind_some, if_pos (show (0 : Int32) = 0 from rfl)]
      simp only [rf_116_35, Int32.zero_add, l567, zx102, c102]
      rw [zix_nI (by omega) (by omega), nI_cl' (by omega), gQ.2.1.2.1 m (by omega), if_neg (show ¬ nI (sSt ρ m) = 3 from fun z => c ((nI_is3 (show sSt ρ m < 100 by have := oC.2.2.1 m; omega)).mp z)), hx, zbindv_some, hw, zbindv_some, w7.1.2.2.2.2.2.1, gQ.2.1.1.2.2.2.2.2.1, hG, show (1 : Int32) = nI 1 from rfl, nI_add, nI_sub' (by omega), show 1 + sSc (sKill α ρ m) 3 - sSc ρ 3 = 1 + (sSc (sKill α ρ m) 3 - sSc ρ 3) by omega]
    · exact IM_row ha hl hbk.1 hi b2 (fun a g1 g2 g3 g4 g5 g6 => ea a (by omega) g4 g5) (fun k g0 g1 g2 g3 => ek k g0 g1) w7 w8 (by rw [w41, Nat.sub_self])
def sPra (ρ : sR) (m : Nat) (x : Int32) : sR := sAdd (rUpSc ρ (sUp (sSc ρ) 5 (sSc ρ 5 + 1))) m x
theorem sPra_c (ρ : sR) (m : Nat) (x : Int32) : ∀ j, j ≠ 5 → sSc (sPra ρ m x) j = sSc ρ j := fun j h => sUp_n (sSc ρ) (k := 5) (j := j) (sSc ρ 5 + 1) h
theorem sPra_5 (ρ : sR) (m : Nat) (x : Int32) : sSc (sPra ρ m x) 5 = sSc ρ 5 + 1 := sUp_s (sSc ρ) 5 (sSc ρ 5 + 1)
theorem okR_pra {α : sA} {ρ : sR} (h : okR α ρ) (m : Nat) (x : Int32) (h5 : sSc ρ 5 < 12) : okR α (sPra ρ m x) := by
  obtain ⟨a1, a2, a3, a4, a5, a6, a7, a8, a9, a10⟩ := h
  have e0 : sSc (sPra ρ m x) 0 = sSc ρ 0 := sPra_c ρ m x 0 (by decide)
  have e5 : sSc (sPra ρ m x) 5 = sSc ρ 5 + 1 := sPra_5 ρ m x
  refine ⟨a1, a2, a3, a4, a5, ?_, a7, ?_, ?_, ?_⟩
  · rw [e0]; exact a6
  · rw [e0]; exact a8
  · rw [e0]; exact a9
  · rw [e5]; omega
theorem zx98 {β : Type} {k : Option β} : zix 98 305 k = k := Eq.trans rfl rfl
theorem c98 : (98 : Int32).toNatClampNeg = 98 := Eq.trans rfl rfl
theorem p_mPraR {g : Nat → Int32} {ρ : sR} (h : MRf g ρ) (h5 : sSc ρ 5 < 12) (hy : sSc ρ 0 < 1000) {m : Nat} (hm : m < 16) (x : Int32) : MRf (sUp (sUp (sUp (sUp g (62 + 3 * sSc ρ 5) (nI (sSc ρ 0))) (62 + 3 * sSc ρ 5 + 1) (nI m)) (62 + 3 * sSc ρ 5 + 2) x) 98 (nI (sSc ρ 5 + 1))) (sPra ρ m x) := by
  obtain ⟨⟨a1, a2, a3, a4, a5, a6, a7⟩, b, c, d, e, f, s, t, u, w⟩ := h
  have e0 : sSc (sPra ρ m x) 0 = sSc ρ 0 := sPra_c ρ m x 0 (by decide)
  have e1 : sSc (sPra ρ m x) 1 = sSc ρ 1 := sPra_c ρ m x 1 (by decide)
  have e2 : sSc (sPra ρ m x) 2 = sSc ρ 2 := sPra_c ρ m x 2 (by decide)
  have e3 : sSc (sPra ρ m x) 3 = sSc ρ 3 := sPra_c ρ m x 3 (by decide)
  have e4 : sSc (sPra ρ m x) 4 = sSc ρ 4 := sPra_c ρ m x 4 (by decide)
  have e5 : sSc (sPra ρ m x) 5 = sSc ρ 5 + 1 := sPra_5 ρ m x
  have G : ∀ k, (k < 62 + 3 * sSc ρ 5 ∨ 98 < k) → (sUp (sUp (sUp (sUp g (62 + 3 * sSc ρ 5) (nI (sSc ρ 0))) (62 + 3 * sSc ρ 5 + 1) (nI m)) (62 + 3 * sSc ρ 5 + 2) x) 98 (nI (sSc ρ 5 + 1))) k = g k := fun k hk => by
    rw [sUp_n _ _ (by omega), sUp_n _ _ (by omega), sUp_n _ _ (by omega), sUp_n _ _ (by omega)]
  have G0 : (sUp (sUp (sUp (sUp g (62 + 3 * sSc ρ 5) (nI (sSc ρ 0))) (62 + 3 * sSc ρ 5 + 1) (nI m)) (62 + 3 * sSc ρ 5 + 2) x) 98 (nI (sSc ρ 5 + 1))) (62 + 3 * sSc ρ 5) = nI (sSc ρ 0) := by
    rw [sUp_n _ _ (by omega), sUp_n _ _ (by omega), sUp_n _ _ (by omega), sUp_s]
  have G1 : (sUp (sUp (sUp (sUp g (62 + 3 * sSc ρ 5) (nI (sSc ρ 0))) (62 + 3 * sSc ρ 5 + 1) (nI m)) (62 + 3 * sSc ρ 5 + 2) x) 98 (nI (sSc ρ 5 + 1))) (62 + 3 * sSc ρ 5 + 1) = nI m := by
    rw [sUp_n _ _ (by omega), sUp_n _ _ (by omega), sUp_s]
  have G2 : (sUp (sUp (sUp (sUp g (62 + 3 * sSc ρ 5) (nI (sSc ρ 0))) (62 + 3 * sSc ρ 5 + 1) (nI m)) (62 + 3 * sSc ρ 5 + 2) x) 98 (nI (sSc ρ 5 + 1))) (62 + 3 * sSc ρ 5 + 2) = x := by
    rw [sUp_n _ _ (by omega), sUp_s]
  have G98 : (sUp (sUp (sUp (sUp g (62 + 3 * sSc ρ 5) (nI (sSc ρ 0))) (62 + 3 * sSc ρ 5 + 1) (nI m)) (62 + 3 * sSc ρ 5 + 2) x) 98 (nI (sSc ρ 5 + 1))) 98 = nI (sSc ρ 5 + 1) := sUp_s _ _ _
  generalize (sUp (sUp (sUp (sUp g (62 + 3 * sSc ρ 5) (nI (sSc ρ 0))) (62 + 3 * sSc ρ 5 + 1) (nI m)) (62 + 3 * sSc ρ 5 + 2) x) 98 (nI (sSc ρ 5 + 1))) = g' at G G0 G1 G2 G98
  refine ⟨⟨?_, ?_, ?_, ?_, ?_, ?_, ?_⟩, fun k hk => ?_, fun k hk => ?_, fun k hk => ?_, fun k hk => ?_, fun k hk => ?_, fun k hk => ?_, fun y y1 y2 => ?_, u, ?_⟩
  · rw [G 61 (by omega)]; exact a1
  · rw [G98, e5]
  · rw [G 99 (by omega), e0]; exact a3
  · rw [G 100 (by omega), e1]; exact a4
  · rw [G 101 (by omega), e2]; exact a5
  · rw [G 102 (by omega), e3]; exact a6
  · rw [G 103 (by omega), e4]; exact a7
  · rw [G k (by omega)]; exact b k hk
  · rw [G _ (by omega)]; exact c k hk
  · rw [G _ (by omega)]; exact d k hk
  · have : k < (sCh ρ).length := hk
    rw [G _ (by omega)]; exact e k hk
  · rw [e5] at hk
    rw [e0]
    by_cases q : k = sSc ρ 5
    · exact ⟨sSc ρ 0, Nat.le_refl _, by rw [q]; exact G0⟩
    · rw [G _ (by omega)]; exact f k (by omega)
  · rw [e5, e0, zsum, zsum_cg (sSc ρ 5) (g := fun j => if g (62 + 3 * j) = nI (sSc ρ 0) ∧ g (62 + 3 * j + 1) = nI k then g (62 + 3 * j + 2) else 0) (fun j hj => by rw [G _ (by omega), G _ (by omega), G _ (by omega)]), s k hk, G0, G1, G2]
    show _ = sUp (sAs ρ) m (sAs ρ m + x) k
    by_cases q : k = m
    · rw [q, sUp_s, if_pos ⟨rfl, rfl⟩]
    · rw [sUp_n _ _ q, if_neg (fun z => q ((nI_eq' (by omega) (by omega)).mp z.2).symm), Int32.add_zero]
  · rw [e0, G _ (by omega)]; exact t y y1 y2
  · rw [e5]; omega
theorem case_18 {v : zV} (hInv : sInv v) (p1 p2 : Int32) : ∃ w, fLc_18 p1 p2 v = some w ∧ sInv w := by
  obtain ⟨α, l, β, ρ, ρb, im, tp, pl, r0, r1, hs, hI, hM⟩ := hInv
  have ha := hs.1
  have hl := hs.2.1
  have hbk := hs.2.2.1
  have hQ : CQ v α l ρ := ⟨hI.1, hI.2.2.1⟩
  have hO : OKs α l ρ := ⟨ha, hl, hs.2.2.2.1.1, hs.2.2.2.1.2⟩
  have hi := hs.2.2.2.2.2.2.1.1
  have hy := hs.2.2.2.1.2
  have oC : okC ρ := okW_C ha (ok_13 ha) hO.2.2.1
  have q1 : v 3 1 = nI (α 0 1) := hI.1.1.1.2.1
  have q0 : v 3 0 = nI (α 0 0) := hI.1.1.1.1
  have M16 : α 0 1 ≤ 16 := ha.1.2.1
  have Q6 : α 0 0 ≤ 6 := ha.1.1
  show ∃ w, zTail (zcatch (fX9_praise 0 p1 p2 v) 603 (some 1) (some 2)) (fX10_praise 116 p1 p2) = some w ∧ sInv w
  by_cases h0 : inN p1 (α 0 1)
  case neg =>
    exact tl_N (z1 := 0) (y := 1) (z := 0) hs hI hM (by decide) (by unfold fX9_praise; rw [(p_needMan (x := p1) q1 M16).2 h0, zbx_1]) (by decide) ⟨fun _ => rfl, fun h => absurd h (by decide)⟩ (fun v2 b2 => by
      obtain ⟨g0, g1, g2, gQ, gD, gE⟩ := qM0 hs b2
      refine ⟨_, ?_, rfM_up v2 1 0⟩
      unfold fX10_praise fX10_praise_19
      rw [zlet_eq, pmanN (x := p1) g1 M16 h0, zbind_some, if_pos (show (0 : Int32) = 0 from rfl), pb1_10 g0, zbind_some, if_neg (show ¬ (1 : Int32) = 0 by decide)]
      rfl)
  by_cases h1 : inB p2 1 99
  case neg =>
    exact tl_N (z1 := 1) (y := 2) (z := 0) hs hI hM (by decide) (by unfold fX9_praise; rw [(p_needMan (x := p1) q1 M16).1 h0, zbx_0, pwN (x := p2) (lo := 1) (hi := 99) (a := 1) (b := 99) (by decide) (by decide) rfl rfl h1, zbind_some, pneedN, zbx_2]) (by decide) ⟨fun h => absurd h (by decide), fun _ => rfl⟩ (fun v2 b2 => by
      obtain ⟨g0, g1, g2, gQ, gD, gE⟩ := qM0 hs b2
      refine ⟨_, ?_, rfM_up v2 2 1⟩
      unfold fX10_praise fX10_praise_19 fX10_praise_43
      rw [zlet_eq, pmanY (x := p1) g1 M16 h0, zbind_some, if_neg (show ¬ (1 : Int32) = 0 by decide), pb0 g0, zbind_some, if_pos (show (0 : Int32) = 0 from rfl), pinN (x := p2) (lo := 1) (hi := 99) (a := 1) (b := 99) (by decide) (by decide) rfl rfl h1, zbind_some, if_pos (show (0 : Int32) = 0 from rfl), pb1_21 g0, zbind_some, if_neg (show ¬ (1 : Int32) = 0 by decide)]
      rfl)
  obtain ⟨m, ml, rfl⟩ := id h0
  obtain ⟨b, bl, bh, rfl⟩ := id h1
  have no : ∀ v2, pIM α l β ρ ρb im tp pl r0 r1 v2 → (zup v2 116 0 0) 116 0 = nI 0 ∧ (∀ a, (a < 116 ∨ a = 603) → (zup v2 116 0 0) a = v2 a) ∧ pIM α l β ρ ρb im tp pl r0 r1 (zup v2 116 0 0) := fun v2 b2 => ⟨p_up_s _ _ _ _, fun a g => p_up_a _ _ _ (by omega), IM_f ha hl hbk.1 hi b2 (fun a g1 _ _ _ => p_up_a _ _ _ (by omega)) (fun k g _ _ _ _ _ _ _ => p_up_n _ _ (Or.inr g))⟩
  by_cases c : sSt ρ m = 0
  case neg =>
    refine tl_G hs hs hM (v1 := v) (r := 0) (by unfold fX9_praise; rw [(p_needMan (x := (nI m)) q1 M16).1 h0, zbx_0, pwY (x := (nI b)) (lo := 1) (hi := 99) (a := 1) (b := 99) (by decide) (by decide) rfl rfl h1, zbind_some, pneedY, zbx_0, rf_0_7, p_isWaiting r37.1 hQ.2 oC (show m < 16 by omega), if_neg c, zbind_some, if_pos rfl]) (fun a _ _ => rfl) hI (fun v2 b2 => ?_)
    obtain ⟨g0, g1, g2, gQ, gD, gE⟩ := qM0 hs b2
    refine ⟨zup v2 116 0 0, ?_, no v2 b2⟩
    unfold fX10_praise fX10_praise_19 fX10_praise_43
    rw [zlet_eq, pmanY (x := (nI m)) g1 M16 h0, zbind_some, if_neg (show ¬ (1 : Int32) = 0 by decide), pb0 g0, zbind_some, if_pos (show (0 : Int32) = 0 from rfl), pinY (x := (nI b)) (lo := 1) (hi := 99) (a := 1) (b := 99) (by decide) (by decide) rfl rfl h1, zbind_some, if_neg (show ¬ (1 : Int32) = 0 by decide), pb0 g0, zbind_some, if_pos (show (0 : Int32) = 0 from rfl), rf_116_35, Int32.zero_add, l567, zix_nI (by omega) (by omega), nI_cl' (by omega), gQ.2.1.2.1 m (by omega), if_neg (fun z => c ((nI_is0 (show sSt ρ m < 100 by have := oC.2.2.1 m; omega)).mp z))]
  by_cases c5 : sSc ρ 5 = 12
  · refine tl_G hs hs hM (v1 := v) (r := 0) (by unfold fX9_praise; rw [(p_needMan (x := (nI m)) q1 M16).1 h0, zbx_0, pwY (x := (nI b)) (lo := 1) (hi := 99) (a := 1) (b := 99) (by decide) (by decide) rfl rfl h1, zbind_some, pneedY, zbx_0, rf_0_7, p_isWaiting r37.1 hQ.2 oC (show m < 16 by omega), if_pos c, zbind_some, if_neg (show ¬ (1 : Int32) = 0 by decide), hI.2.2.1.1.2.2.2.2.2.2.1, c5, if_neg (by decide)]) (fun a _ _ => rfl) hI (fun v2 b2 => ?_)
    obtain ⟨g0, g1, g2, gQ, gD, gE⟩ := qM0 hs b2
    refine ⟨zup v2 116 0 0, ?_, no v2 b2⟩
    unfold fX10_praise fX10_praise_19 fX10_praise_43
    rw [zlet_eq, pmanY (x := (nI m)) g1 M16 h0, zbind_some, if_neg (show ¬ (1 : Int32) = 0 by decide), pb0 g0, zbind_some, if_pos (show (0 : Int32) = 0 from rfl), pinY (x := (nI b)) (lo := 1) (hi := 99) (a := 1) (b := 99) (by decide) (by decide) rfl rfl h1, zbind_some, if_neg (show ¬ (1 : Int32) = 0 by decide), pb0 g0, zbind_some, if_pos (show (0 : Int32) = 0 from rfl), rf_116_35, Int32.zero_add, l567, zix_nI (by omega) (by omega), nI_cl' (by omega), gQ.2.1.2.1 m (by omega), if_pos ((nI_is0 (show sSt ρ m < 100 by have := oC.2.2.1 m; omega)).mpr c), zx98, c98, gQ.2.1.1.2.1, c5, if_pos (show nI 12 = 12 from rfl)]
  have h12 : sSc ρ 5 < 12 := by have := hO.2.2.1.2.2.2.2.2.2.2.2.2; omega
  have h1000 := hO.2.2.1.2.2.2.2.2.1.2
  have hup : RC 37 (zup v 37 6 (nI (sSc ρ 5 + 1))) (rUpSc ρ (sUp (sSc ρ) 5 (sSc ρ 5 + 1))) := RC_sc hI.2.2.1 (k := 6) (j := 5) (Or.inr (Or.inr (Or.inr (Or.inr ⟨rfl, rfl⟩)))) (sSc ρ 5 + 1)
  obtain ⟨t, ht, htR, hto⟩ := p_praiseMore r37.1 hup (show m < 16 by omega) (nI b)
  obtain ⟨t2, ht2, htR2, hto2⟩ := p_rowCopy r43.1 r37.1 (Or.inl (by decide)) htR (show (sCh ρ).length ≤ 13 from oC.1)
  have hk := okR_pra hO.2.2.1 m (nI b) h12
  have hky : sSc (sPra ρ m (nI b)) 0 = sSc ρ 0 := sPra_c ρ m (nI b) 0 (by decide)
  have hs' : okS α l β (sPra ρ m (nI b)) (sPra ρ m (nI b)) im tp := ⟨ha, hl, hbk, ⟨hk, by omega⟩, hk, ⟨0, rfl, rfl, sFrs_r hs (sPra_c ρ m (nI b) 9 (by decide))⟩, hs.2.2.2.2.2.2⟩
  have call : ∀ a, (a < 37 ∨ 48 < a) → t2 a = v a := fun a g => (hto2 a (by omega)).trans ((hto a (by omega)).trans (p_up_a _ _ _ (by omega)))
  refine tl_G hs hs' hM (v1 := t2) (r := 1) (by unfold fX9_praise; rw [(p_needMan (x := (nI m)) q1 M16).1 h0, zbx_0, pwY (x := (nI b)) (lo := 1) (hi := 99) (a := 1) (b := 99) (by decide) (by decide) rfl rfl h1, zbind_some, pneedY, zbx_0, rf_0_7, p_isWaiting r37.1 hQ.2 oC (show m < 16 by omega), if_pos c, zbind_some, if_neg (show ¬ (1 : Int32) = 0 by decide), hI.2.2.1.1.2.2.2.2.2.2.1, if_pos (show nI (sSc ρ 5) < (12 : Int32) from (nI_lt' (b := 12) (by omega) (by omega)).mpr h12), zlet_eq, show (nI (sSc ρ 5) + 1 : Int32) = nI (sSc ρ 5 + 1) from nI_add _ 1, ht, zbindv_some, rf_0_8, ht2, zbindv_some]) (fun a g1 g2 => call a (by omega)) (IC_row hi hI (fun a g1 g2 g3 g4 g5 => call a g4) (RC_fr htR (fun a g1 g2 => hto2 a (by omega))) htR2) (fun v2 b2 => ?_)
  obtain ⟨g0, g1, g2, gQ, gD, gE⟩ := qM0 hs b2
  have uR := p_mPraR gQ.2.1 h12 h1000 (show m < 16 by omega) (nI b)
  have e1 : zup (zup (zup (zup (zup v2 116 0 0) 567 (62 + 3 * sSc ρ 5) (nI (sSc ρ 0))) 567 (62 + 3 * sSc ρ 5 + 1) (nI m)) 567 (62 + 3 * sSc ρ 5 + 2) (nI b)) 567 98 (nI (sSc ρ 5 + 1)) 567 = sUp (sUp (sUp (sUp ((zup v2 116 0 0) 567) (62 + 3 * sSc ρ 5) (nI (sSc ρ 0))) (62 + 3 * sSc ρ 5 + 1) (nI m)) (62 + 3 * sSc ρ 5 + 2) (nI b)) 98 (nI (sSc ρ 5 + 1)) := by
    rw [zupRow, zupRow, zupRow, zupRow]
  have ea : ∀ a, a ≠ 567 → zup (zup (zup (zup (zup v2 116 0 0) 567 (62 + 3 * sSc ρ 5) (nI (sSc ρ 0))) 567 (62 + 3 * sSc ρ 5 + 1) (nI m)) 567 (62 + 3 * sSc ρ 5 + 2) (nI b)) 567 98 (nI (sSc ρ 5 + 1)) a = (zup v2 116 0 0) a := fun a g => by rw [p_up_a _ _ _ g, p_up_a _ _ _ g, p_up_a _ _ _ g, p_up_a _ _ _ g]
  have e98 : zup (zup (zup (zup v2 116 0 0) 567 (62 + 3 * sSc ρ 5) (nI (sSc ρ 0))) 567 (62 + 3 * sSc ρ 5 + 1) (nI m)) 567 (62 + 3 * sSc ρ 5 + 2) (nI b) 567 98 = nI (sSc ρ 5) := by
    rw [p_up_n _ _ (Or.inr (by omega)), p_up_n _ _ (Or.inr (by omega)), p_up_n _ _ (Or.inr (by omega))]
    exact gQ.2.1.1.2.1
  rw [← e1] at uR
  obtain ⟨w, hw, w7, w8, w41, wa, wk⟩ := p_mSettles (v := zup (zup (zup (zup (zup v2 116 0 0) 567 (62 + 3 * sSc ρ 5) (nI (sSc ρ 0))) 567 (62 + 3 * sSc ρ 5 + 1) (nI m)) 567 (62 + 3 * sSc ρ 5 + 2) (nI b)) 567 98 (nI (sSc ρ 5 + 1))) uR
  have fa : ∀ a, a ≠ 116 → a ≠ 567 → a ≠ 568 → w a = v2 a := fun a g1 g2 g3 => (wa a g1 g3).trans ((ea a g2).trans (p_up_a _ _ _ g1))
  have fk : ∀ k, k ≠ 0 → k ≠ 41 → w 116 k = v2 116 k := fun k g1 g2 => (wk k g2).trans (by rw [ea 116 (by decide), p_up_n _ _ (Or.inr g1)])
  refine ⟨w, ?_, by rw [wk 0 (by decide), ea 116 (by decide), g0], fun a g => fa a (by omega) (by omega) (by omega), IM_row ha hl hbk.1 hi b2 (fun a g1 g2 g3 g4 g5 g6 => fa a (by omega) g4 g5) (fun k g0 g1 g2 g3 => fk k g0 g1) w7 w8 (by rw [w41, Nat.sub_self])⟩
  unfold fX10_praise fX10_praise_19 fX10_praise_43
  rw [zlet_eq, pmanY (x := (nI m)) g1 M16 h0, zbind_some, if_neg (show ¬ (1 : Int32) = 0 by decide), pb0 g0, zbind_some, if_pos (show (0 : Int32) = 0 from rfl), pinY (x := (nI b)) (lo := 1) (hi := 99) (a := 1) (b := 99) (by decide) (by decide) rfl rfl h1, zbind_some, if_neg (show ¬ (1 : Int32) = 0 by decide), pb0 g0, zbind_some, if_pos (show (0 : Int32) = 0 from rfl)]
  simp only [rf_116_35, Int32.zero_add, l567, zx98, c98, zx99, c99]
  rw [zix_nI (by omega) (by omega), nI_cl' (by omega), gQ.2.1.2.1 m (by omega), if_pos ((nI_is0 (show sSt ρ m < 100 by have := oC.2.2.1 m; omega)).mpr c), gQ.2.1.1.2.1, if_neg (show ¬ nI (sSc ρ 5) = 12 from fun z => c5 ((nI_eq' (b := 12) (by omega) (by omega)).mp z)), gQ.2.1.1.2.2.1]
  simp (disch := omega) only [show (62 : Int32) = nI 62 from rfl, show (3 : Int32) = nI 3 from rfl, show (1 : Int32) = nI 1 from rfl, show (2 : Int32) = nI 2 from rfl, pk_mul, nI_add, zlet_eq, zix_nI, nI_cl', e98]
  rw [hw, zbindv_some]
theorem rf49 : ∀ k, k < 3 → zrf 49 k = 98 + 6 * k := by decide +kernel
theorem l49 : zlen 49 = 3 := by decide +kernel
theorem rx_32 : zrf 116 32 = 561 := by decide +kernel
theorem l561 : zlen 561 = 3 := by decide +kernel
theorem rx561 : ∀ k, k < 3 → zrf 561 k = 562 + k := by decide +kernel
theorem rImg : ∀ k, k < 3 → isRow (98 + 6 * k) := by
  intro k hk
  have : k = 0 ∨ k = 1 ∨ k = 2 := by omega
  rcases this with rfl | rfl | rfl
  · exact isRow_all 98 (by decide)
  · exact isRow_all 104 (by decide)
  · exact isRow_all 110 (by decide)
theorem mImg : ∀ k, k < 3 → rowM (562 + k) := by
  intro k hk
  have : k = 0 ∨ k = 1 ∨ k = 2 := by omega
  rcases this with rfl | rfl | rfl
  · exact rowM_all 562 (by decide)
  · exact rowM_all 563 (by decide)
  · exact rowM_all 564 (by decide)
theorem gIm_app {im : List sR} {ρ : sR} {k : Nat} : gIm (im ++ [ρ]) k = if k < im.length then gIm im k else if k = im.length then ρ else sR0 := by
  unfold gIm
  rw [List.getD_eq_getElem?_getD, List.getD_eq_getElem?_getD, List.getElem?_append]
  by_cases h : k < im.length
  · rw [if_pos h, if_pos h]
  · rw [if_neg h, if_neg h]
    by_cases e : k = im.length
    · rw [if_pos e, e, Nat.sub_self]
      rfl
    · rw [if_neg e, List.getElem?_eq_none (by simp; omega)]
      rfl
theorem gIm_take {im : List sR} {n k : Nat} (h : k < n) : gIm (im.take n) k = gIm im k := by
  unfold gIm
  rw [List.getD_eq_getElem?_getD, List.getD_eq_getElem?_getD, List.getElem?_take, if_pos h]
theorem case_48 {v : zV} (hInv : sInv v) : ∃ w, fLc_48 v = some w ∧ sInv w := by
  obtain ⟨α, l, β, ρ, ρb, im, tp, pl, r0, r1, hs, hI, hM⟩ := hInv
  have ha := hs.1
  have hl := hs.2.1
  have hbk := hs.2.2.1
  have hQ : CQ v α l ρ := ⟨hI.1, hI.2.2.1⟩
  have hO : OKs α l ρ := ⟨ha, hl, hs.2.2.2.1.1, hs.2.2.2.1.2⟩
  have hi := hs.2.2.2.2.2.2.1.1
  have hy := hs.2.2.2.1.2
  have oC : okC ρ := okW_C ha (ok_13 ha) hO.2.2.1
  have q1 : v 3 1 = nI (α 0 1) := hI.1.1.1.2.1
  have q0 : v 3 0 = nI (α 0 0) := hI.1.1.1.1
  have M16 : α 0 1 ≤ 16 := ha.1.2.1
  have Q6 : α 0 0 ≤ 6 := ha.1.1
  show ∃ w, zTwo (fX9_image 0 v) (fX10_image 116) = some w ∧ sInv w
  have h10 := hI.2.2.2.2.1.1
  by_cases c : im.length = 3
  · refine tl_2 hs hI hM (v1 := v) (r := -1) ?_ (frC_rf v) (fun v2 b2 => ⟨zup v2 116 0 0, ?_, frM_rf _⟩)
    · unfold fX9_image
      rw [h10, c, if_neg (show ¬ nI 3 < 0 by decide), rf_0_9, l49, if_neg (show ¬ nI 3 < Int32.ofNat 3 by decide)]
    · unfold fX10_image
      rw [zlet_eq, p_up_n _ _ (Or.inr (by decide)), b2.2.2.2.2.2.2.2.1.1, c, if_pos (show nI 3 = 3 from rfl)]
  · have hk : im.length < 3 := by omega
    have hri := rImg im.length hk
    obtain ⟨t, ht, htR, hto⟩ := p_rowCopy hri r37.1 (Or.inl (by omega)) hI.2.2.1 oC.1
    have hs' : okS α l β ρ ρb (im ++ [ρ]) tp := ⟨ha, hl, hbk, hs.2.2.2.1, hs.2.2.2.2.1, (by
      obtain ⟨e, e1, e2, e3⟩ := hs.2.2.2.2.2.1
      refine ⟨e, e1, e2, ?_⟩
      rcases e3 with z | z
      · exact Or.inl z
      · refine Or.inr ⟨z.1, fun k hk2 => ?_⟩
        rw [List.length_append] at hk2
        have hk2 : k < im.length + 1 := hk2
        rw [gIm_app]
        by_cases q : k < im.length
        · rw [if_pos q]; exact z.2 k q
        · rw [if_neg q, if_pos (by omega), e1, sGo_9]; exact z.1), ⟨by rw [List.length_append]; show im.length + 1 ≤ 3; omega, fun k hk2 => by
      rw [List.length_append] at hk2
      have hk2 : k < im.length + 1 := hk2
      rw [gIm_app]
      by_cases q : k < im.length
      · rw [if_pos q]; exact hs.2.2.2.2.2.2.1.2 k q
      · rw [if_neg q, if_pos (by omega)]; exact hs.2.2.2.1⟩, hs.2.2.2.2.2.2.2⟩
    have e0 : ∀ a, (a < 98 + 6 * im.length ∨ 98 + 6 * im.length + 5 < a) → a ≠ 0 → zup t 0 10 (t 0 10 + 1) a = v a := fun a g1 g2 => (p_up_a _ _ _ g2).trans (hto a g1)
    have t0 : t 0 = v 0 := hto 0 (by omega)
    have e00 : ∀ k, k ≠ 10 → zup t 0 10 (t 0 10 + 1) 0 k = v 0 k := fun k g => by rw [p_up_n _ _ (Or.inr g), t0]
    have e10 : zup t 0 10 (t 0 10 + 1) 0 10 = nI (im.length + 1) := by
      rw [p_up_s, t0, h10]
      exact nI_add _ 1
    have eR : RC (98 + 6 * im.length) (zup t 0 10 (t 0 10 + 1)) ρ := RC_fr htR (fun a g1 g2 => p_up_a _ _ _ (by omega))
    generalize hx : zup t 0 10 (t 0 10 + 1) = x at e0 e00 e10 eR
    refine tl_G2 hs hs' hM (v1 := x) (r := nI (im.length + 1)) (r0' := r0) (r1' := r1) (pl' := pl) ?_ (fun a g1 g2 => e0 a (by omega) (by omega)) ?_ (fun v2 b2 => ?_)
    · unfold fX9_image
      rw [h10, if_neg (nI_pos (by omega)), rf_0_9, l49, if_pos (show nI im.length < Int32.ofNat 3 from (nI_lt' (b := 3) (by omega) (by omega)).mpr hk), zix_nI hk (by omega), nI_cl' (by omega), rf49 _ hk, rf_0_7, ht, zbindv_some, zlet_eq, hx, e10]
    · obtain ⟨h1, h2, h3, h4, ⟨h5, h6⟩, ⟨h7, h8⟩, h9, h10, h11⟩ := hI
      refine ⟨⟨CA_fr h1.1 (fun a g1 g2 => e0 a (by omega) (by omega)), CL_fr h1.2 (e0 23 (by omega) (by decide)) (e0 24 (by omega) (by decide))⟩, CB_fr h2 (fun a g1 g2 => e0 a (by omega) (by omega)), RC_fr h3 (fun a g1 g2 => e0 a (by omega) (by omega)), RC_fr h4 (fun a g1 g2 => e0 a (by omega) (by omega)), ⟨by rw [e10, List.length_append]; rfl, fun k hk2 => ?_⟩, ⟨by rw [e0 1 (by omega) (by decide)]; exact h7, fun k hk2 => by rw [e0 2 (by omega) (by decide)]; exact h8 k hk2⟩, by rw [e0 1 (by omega) (by decide)]; exact h9, by rw [e00 15 (by decide)]; exact h10, by rw [e00 16 (by decide)]; exact h11⟩
      rw [List.length_append] at hk2
      have hk2 : k < im.length + 1 := hk2
      rw [gIm_app]
      by_cases q : k < im.length
      · rw [if_pos q]; exact RC_fr (h6 k q) (fun a g1 g2 => e0 a (by omega) (by omega))
      · rw [if_neg q, if_pos (by omega), show k = im.length by omega]; exact eR
    · obtain ⟨g0, g1, g2, gQ, gD, gE⟩ := qM0 hs b2
      obtain ⟨y, hy, hcp, hon⟩ := p_mCopies (mImg im.length hk) m567 (by omega) (zup v2 116 0 0)
      have y42 : y 116 42 = nI im.length := by rw [hon 116 (by omega), p_up_n _ _ (Or.inr (by decide))]; exact b2.2.2.2.2.2.2.2.1.1
      have f42 : zup y 116 42 (y 116 42 + 1) 116 42 = nI (im.length + 1) := by
        rw [p_up_s, y42]
        exact nI_add _ 1
      have fa : ∀ a, a ≠ 116 → a ≠ 562 + im.length → zup y 116 42 (y 116 42 + 1) a = v2 a := fun a g1 g2 => (p_up_a _ _ _ g1).trans ((hon a g2).trans (p_up_a _ _ _ g1))
      have fk : ∀ k, k ≠ 0 → k ≠ 42 → zup y 116 42 (y 116 42 + 1) 116 k = v2 116 k := fun k g1 g2 => by rw [p_up_n _ _ (Or.inr g2), hon 116 (by omega), p_up_n _ _ (Or.inr g1)]
      have fR : MR (562 + im.length) (zup y 116 42 (y 116 42 + 1)) ρ := MR_fr (MR_cp gQ.2.1 hcp) (p_up_a _ _ _ (by omega))
      generalize hz : zup y 116 42 (y 116 42 + 1) = z at f42 fa fk fR
      refine ⟨z, ?_, fun a g => fa a (by omega) (by omega), ?_⟩
      · unfold fX10_image
        rw [zlet_eq, p_up_n _ _ (Or.inr (by decide)), b2.2.2.2.2.2.2.2.1.1, if_neg (show ¬ nI im.length = 3 from fun q => c ((nI_is3 (by omega)).mp q)), rx_32, l561, zix_nI hk (by omega), nI_cl' (by omega), rx561 _ hk, rf_116_35, hy, zbindv_some, zlet_eq, hz, f42]
      · obtain ⟨h1, h2, h3, h4, h5, ⟨h44, h46, h47⟩, h6, ⟨h7, h8⟩, ⟨h9, h10⟩, h11, h12, h13⟩ := b2
        refine ⟨⟨MA_fr h1.1 ha (fun a g1 g2 => fa a (by omega) (by omega)), ML_fr h1.2 hl (fk 26 (by decide) (by decide)) (fun a g1 g2 => fa a (by omega) (by omega))⟩, MB_fr h2 hbk.1 (fk 40 (by decide) (by decide)) (fun a g1 g2 => fa a (by omega) (by omega)), MR_fr h3 (fa 567 (by decide) (by omega)), MR_fr h4 (fa 568 (by decide) (by omega)), MR_fr h5 (fa 569 (by decide) (by omega)), ⟨(fk 44 (by decide) (by decide)).trans h44, (fk 46 (by decide) (by decide)).trans h46, (fk 47 (by decide) (by decide)).trans h47⟩, (fk 41 (by decide) (by decide)).trans h6, ⟨by rw [f42, List.length_append]; rfl, fun k hk2 => ?_⟩, ⟨(fk 1 (by decide) (by decide)).trans h9, fun k hk => by rw [fa 117 (by decide) (by omega)]; exact h10 k hk⟩, (fk 3 (by decide) (by decide)).trans h11, by rw [fa 118 (by decide) (by omega)]; exact h12, by rw [fa 118 (by decide) (by omega)]; exact h13⟩
        rw [List.length_append] at hk2
        have hk2 : k < im.length + 1 := hk2
        rw [gIm_app]
        by_cases q : k < im.length
        · rw [if_pos q]; exact MR_fr (h8 k q) (fa (562 + k) (by omega) (by omega))
        · rw [if_neg q, if_pos (by omega), show k = im.length by omega]; exact fR
theorem case_49 {v : zV} (hInv : sInv v) : ∃ w, fLc_49 v = some w ∧ sInv w := by
  obtain ⟨α, l, β, ρ, ρb, im, tp, pl, r0, r1, hs, hI, hM⟩ := hInv
  have ha := hs.1
  have hl := hs.2.1
  have hbk := hs.2.2.1
  have hQ : CQ v α l ρ := ⟨hI.1, hI.2.2.1⟩
  have hO : OKs α l ρ := ⟨ha, hl, hs.2.2.2.1.1, hs.2.2.2.1.2⟩
  have hi := hs.2.2.2.2.2.2.1.1
  have hy := hs.2.2.2.1.2
  have oC : okC ρ := okW_C ha (ok_13 ha) hO.2.2.1
  have q1 : v 3 1 = nI (α 0 1) := hI.1.1.1.2.1
  have q0 : v 3 0 = nI (α 0 0) := hI.1.1.1.1
  have M16 : α 0 1 ≤ 16 := ha.1.2.1
  have Q6 : α 0 0 ≤ 6 := ha.1.1
  show ∃ w, zTwo (fX9_restore 0 v) (fX10_restore 116) = some w ∧ sInv w
  have h10 := hI.2.2.2.2.1.1
  by_cases c : im.length = 0
  · refine tl_2 hs hI hM (v1 := v) (r := -1) ?_ (frC_rf v) (fun v2 b2 => ⟨zup v2 116 0 0, ?_, frM_rf _⟩)
    · unfold fX9_restore
      rw [h10, c, if_pos (show nI 0 < 1 by decide)]
    · unfold fX10_restore
      rw [zlet_eq, p_up_n _ _ (Or.inr (by decide)), b2.2.2.2.2.2.2.2.1.1, c, if_pos (show nI 0 = 0 from rfl)]
  · obtain ⟨n, hn⟩ : ∃ n, im.length = n + 1 := ⟨im.length - 1, by omega⟩
    have hk : n < 3 := by omega
    obtain ⟨o1, o2⟩ := hs.2.2.2.2.2.2.1.2 n (by omega)
    have olen : (sCh (gIm im n)).length ≤ 13 := by have := o1.1; have := ha.1.2.2.2.1; omega
    have u0 : ∀ a, a ≠ 0 → zup v 0 10 (nI (n + 1) - 1) a = v a := fun a g => p_up_a _ _ _ g
    have u10 : zup v 0 10 (nI (n + 1) - 1) 0 10 = nI n := by rw [p_up_s]; exact nI_sub' (b := 1) (by omega)
    have u00 : ∀ k, k ≠ 10 → zup v 0 10 (nI (n + 1) - 1) 0 k = v 0 k := fun k g => p_up_n _ _ (Or.inr g)
    generalize hx : zup v 0 10 (nI (n + 1) - 1) = x at u0 u10 u00
    obtain ⟨t, ht, htR, hto⟩ := p_rowCopy r37.1 (rImg n hk) (Or.inr (by omega)) (RC_fr (hI.2.2.2.2.1.2 n (by omega)) (fun a g1 g2 => u0 a (by omega))) olen
    obtain ⟨t2, ht2, htR2, hto2⟩ := p_rowCopy r43.1 r37.1 (Or.inl (by decide)) htR olen
    have lt : (im.take n).length = n := by rw [List.length_take]; omega
    have hs' : okS α l β (gIm im n) (gIm im n) (im.take n) tp := ⟨ha, hl, hbk, ⟨o1, o2⟩, o1, ⟨0, rfl, rfl, (by
      rcases (okS_f hs).1 with z | z
      · exact Or.inl z
      · refine Or.inr ⟨z.2 n (by omega), fun k hk2 => ?_⟩
        rw [lt] at hk2
        rw [gIm_take hk2]
        exact z.2 k (by omega))⟩, ⟨by rw [lt]; omega, fun k hk2 => by
      rw [lt] at hk2
      rw [gIm_take hk2]
      exact hs.2.2.2.2.2.2.1.2 k (by omega)⟩, hs.2.2.2.2.2.2.2⟩
    have ea : ∀ a, (a < 37 ∨ 48 < a) → a ≠ 0 → t2 a = v a := fun a g1 g2 => (hto2 a (by omega)).trans ((hto a (by omega)).trans (u0 a g2))
    have e0 : t2 0 = x 0 := (hto2 0 (by omega)).trans (hto 0 (by omega))
    refine tl_G2 hs hs' hM (v1 := t2) (r := nI n) (r0' := r0) (r1' := r1) (pl' := pl) ?_ (fun a g1 g2 => ea a (by omega) (by omega)) ?_ (fun v2 b2 => ?_)
    · unfold fX9_restore
      rw [h10, hn, if_neg (show ¬ nI (n + 1) < 1 from fun z => by have := (nI_lt' (b := 1) (by omega) (by omega)).mp z; omega), rf_0_9, l49, if_pos (show nI (n + 1) ≤ Int32.ofNat 3 from (nI_le' (b := 3) (by omega) (by omega)).mpr (by omega)), zlet_eq, hx, u10, zix_nI hk (by omega), nI_cl' (by omega), rf49 _ hk, rf_0_7, ht, zbindv_some, rf_0_8, ht2, zbindv_some, e0, u10]
    · obtain ⟨h1, h2, h3, h4, ⟨h5, h6⟩, ⟨h7, h8⟩, h9, h10, h11⟩ := hI
      refine ⟨⟨CA_fr h1.1 (fun a g1 g2 => ea a (by omega) (by omega)), CL_fr h1.2 (ea 23 (by omega) (by decide)) (ea 24 (by omega) (by decide))⟩, CB_fr h2 (fun a g1 g2 => ea a (by omega) (by omega)), RC_fr htR (fun a g1 g2 => hto2 a (by omega)), htR2, ⟨by rw [e0, u10, lt], fun k hk2 => ?_⟩, ⟨by rw [ea 1 (by omega) (by decide)]; exact h7, fun k hk2 => by rw [ea 2 (by omega) (by decide)]; exact h8 k hk2⟩, by rw [ea 1 (by omega) (by decide)]; exact h9, by rw [e0, u00 15 (by decide)]; exact h10, by rw [e0, u00 16 (by decide)]; exact h11⟩
      rw [lt] at hk2
      rw [gIm_take hk2]
      exact RC_fr (h6 k (by omega)) (fun a g1 g2 => ea a (by omega) (by omega))
    · obtain ⟨h1, h2, h3, h4, h5, ⟨h44, h46, h47⟩, h6, ⟨h7, h8⟩, ⟨h9, h10⟩, h11, h12, h13⟩ := b2
      have fa : ∀ a, a ≠ 116 → zup (zup v2 116 0 0) 116 42 (nI (n + 1) - 1) a = v2 a := fun a g => by rw [p_up_a _ _ _ g, p_up_a _ _ _ g]
      have fk : ∀ k, k ≠ 0 → k ≠ 42 → zup (zup v2 116 0 0) 116 42 (nI (n + 1) - 1) 116 k = v2 116 k := fun k g1 g2 => by rw [p_up_n _ _ (Or.inr g2), p_up_n _ _ (Or.inr g1)]
      have f42 : zup (zup v2 116 0 0) 116 42 (nI (n + 1) - 1) 116 42 = nI n := by rw [p_up_s]; exact nI_sub' (b := 1) (by omega)
      generalize hz : zup (zup v2 116 0 0) 116 42 (nI (n + 1) - 1) = z at fa fk f42
      obtain ⟨y, hy, hcp, hon⟩ := p_mCopies m567 (mImg n hk) (by omega) z
      have yR : MR 567 y (gIm im n) := MR_cp (MR_fr (h8 n (by omega)) (fa (562 + n) (by omega))) hcp
      obtain ⟨w, hw, w7, w8, w41, wa, wk⟩ := p_mSettles yR
      have ga : ∀ a, a ≠ 116 → a ≠ 567 → a ≠ 568 → w a = v2 a := fun a g1 g2 g3 => (wa a g1 g3).trans ((hon a g2).trans (fa a g1))
      have gk : ∀ k, k ≠ 41 → w 116 k = z 116 k := fun k g => (wk k g).trans (by rw [hon 116 (by decide)])
      refine ⟨w, ?_, fun a g => ga a (by omega) (by omega) (by omega), ?_⟩
      · unfold fX10_restore
        have q42 : (zup v2 116 0 0) 116 42 = nI (n + 1) := by rw [p_up_n _ _ (Or.inr (by decide)), h7, hn]
        rw [zlet_eq, q42, if_neg (show ¬ nI (n + 1) = 0 from fun q => by have := (nI_is0 (by omega)).mp q; omega), zlet_eq, hz, f42, rx_32, l561, zix_nI hk (by omega), nI_cl' (by omega), rx561 _ hk, rf_116_35, hy, zbindv_some, hw, zbindv_some, gk 42 (by decide), f42]
      · refine ⟨⟨MA_fr h1.1 ha (fun a g1 g2 => ga a (by omega) (by omega) (by omega)), ML_fr h1.2 hl ((gk 26 (by decide)).trans (fk 26 (by decide) (by decide))) (fun a g1 g2 => ga a (by omega) (by omega) (by omega))⟩, MB_fr h2 hbk.1 ((gk 40 (by decide)).trans (fk 40 (by decide) (by decide))) (fun a g1 g2 => ga a (by omega) (by omega) (by omega)), w7, w8, MR_fr h5 (ga 569 (by decide) (by decide) (by decide)), ⟨((gk 44 (by decide)).trans (fk 44 (by decide) (by decide))).trans h44, ((gk 46 (by decide)).trans (fk 46 (by decide) (by decide))).trans h46, ((gk 47 (by decide)).trans (fk 47 (by decide) (by decide))).trans h47⟩, by rw [w41, Nat.sub_self], ⟨by rw [gk 42 (by decide), f42, lt], fun k hk2 => ?_⟩, ⟨((gk 1 (by decide)).trans (fk 1 (by decide) (by decide))).trans h9, fun k hk => by rw [ga 117 (by decide) (by decide) (by decide)]; exact h10 k hk⟩, ((gk 3 (by decide)).trans (fk 3 (by decide) (by decide))).trans h11, by rw [ga 118 (by decide) (by decide) (by decide)]; exact h12, by rw [ga 118 (by decide) (by decide) (by decide)]; exact h13⟩
        rw [lt] at hk2
        rw [gIm_take hk2]
        exact MR_fr (h8 k (by omega)) (ga (562 + k) (by omega) (by omega) (by omega))
end
