/-! LAW: the class reads it -/
section
def dLw (P : sL) (v : zV) : Prop := v 27 3 = nI P.length ∧ ∀ k, k < P.length → v 28 k = sEnc (P.getD k (0, 0))
def fr5 (v w : zV) : Prop := (∀ a, a ≠ 1 → a ≠ 27 → a ≠ 28 → w a = v a) ∧ ∀ k, k ≠ 2 → k ≠ 3 → k ≠ 5 → w 1 k = v 1 k
theorem fr5_tr {v w u : zV} (h1 : fr5 v w) (h2 : fr5 w u) : fr5 v u := ⟨fun a g1 g2 g3 => (h2.1 a g1 g2 g3).trans (h1.1 a g1 g2 g3), fun k g1 g2 g3 => (h2.2 k g1 g2 g3).trans (h1.2 k g1 g2 g3)⟩
theorem fr5_1 {v w : zV} (h : fr1 v w) : fr5 v w := ⟨fun a g _ _ => h.1 a g, h.2⟩
theorem dLw_1 {P : sL} {v w : zV} (h : dLw P v) (e : fr1 v w) : dLw P w := ⟨by rw [e.1 27 (by decide)]; exact h.1, fun k hk => by rw [e.1 28 (by decide)]; exact h.2 k hk⟩
theorem rr_27_0 : zrf 27 0 = 28 := by decide +kernel
theorem l28 : zlen 28 = 150 := by decide +kernel
theorem getD_appL (P : sL) (s : Nat × Nat) (k : Nat) : (P ++ [s]).getD k (0, 0) = if k < P.length then P.getD k (0, 0) else if k = P.length then s else (0, 0) := by
  rw [List.getD_eq_getElem?_getD, List.getD_eq_getElem?_getD, List.getElem?_append]
  by_cases h : k < P.length
  · rw [if_pos h, if_pos h]
  · rw [if_neg h, if_neg h]
    by_cases e : k = P.length
    · rw [if_pos e, e, Nat.sub_self]
      rfl
    · rw [if_neg e, List.getElem?_eq_none (by simp; omega)]
      rfl
theorem p_add (x : Int32) (v : zV) : ∃ w, fX5_add 27 x v = some w ∧ (∀ P s, dLw P v → P.length < 150 → x = sEnc s → dLw (P ++ [s]) w) ∧ ∀ a, a ≠ 27 → a ≠ 28 → w a = v a := by
  unfold fX5_add
  by_cases c1 : v 27 3 < 0
  · rw [if_pos c1]
    exact ⟨v, rfl, fun P s h hl _ => by rw [h.1] at c1; exact absurd c1 (nI_pos (by omega)), fun _ _ _ => rfl⟩
  rw [if_neg c1, rr_27_0, l28]
  by_cases c2 : Int32.ofNat 150 ≤ v 27 3
  · rw [if_pos c2]
    exact ⟨v, rfl, fun P s h hl _ => by rw [h.1] at c2; exact absurd c2 (leN (a := 150) (by omega) (by omega) (by omega)), fun _ _ _ => rfl⟩
  rw [if_neg c2]
  obtain ⟨k, hk, ek⟩ := ia_of c1
  have hk2 : k < 150 := by
    have : ¬ 150 ≤ k := fun z => c2 (by rw [ek]; exact leY (a := 150) (by omega) (by omega) z)
    omega
  rw [ek, zix_nI hk2 (by omega), nI_cl' (by omega), zlet_eq, zlet_eq]
  refine ⟨_, rfl, fun P s h hl hx => ?_, fun a g1 g2 => by rw [p_up_a _ _ _ g1, p_up_a _ _ _ g2]⟩
  have e : k = P.length := by
    have := h.1
    rw [ek] at this
    exact (nI_eq (by omega) (by omega)).mp this
  refine ⟨?_, fun j hj => ?_⟩
  · rw [p_up_s, p_up_a _ _ _ (by decide), ek, len_app, e]
    exact nI_add _ 1
  · rw [len_app] at hj
    rw [p_up_a _ _ _ (by decide), p_up, getD_appL]
    by_cases g : j = P.length
    · rw [if_pos ⟨rfl, by omega⟩, if_neg (by omega), if_pos g, hx]
    · rw [if_neg (fun z => g (by omega)), if_pos (by omega)]
      exact h.2 j (by omega)
theorem fr5_add {v w : zV} (h : ∀ a, a ≠ 27 → a ≠ 28 → w a = v a) : fr5 v w := ⟨fun a _ g2 g3 => h a g2 g3, fun k _ _ _ => by rw [h 1 (by decide) (by decide)]⟩
theorem rdC_add {L : List Nat} {τ : rdE} {v w : zV} (h : rdC L τ v) (e : ∀ a, a ≠ 27 → a ≠ 28 → w a = v a) : rdC L τ w := rdC_fr h (e 1 (by decide) (by decide)) (e 2 (by decide) (by decide))
/-- the class reads as S says -/
def cOK (L : List Nat) (f : zV → Option zV) (S : rdE → sL × rdE) : Prop := ∀ (P : sL) (τ : rdE) (v : zV), rdC L τ v → (∀ p, τ = .inl p → dLw P v ∧ P.length ≤ p) → ∃ w, f v = some w ∧ rdC L (S τ).2 w ∧ (∀ q, (S τ).2 = .inl q → dLw (P ++ (S τ).1) w) ∧ fr5 v w
/-! what excludes what -/
theorem tNmA_at {L : List Nat} {τ : rdE} {k : Nat} (h2 : (tTk L (tW (8 + k)) τ).1 = true) : ∀ d k0, k0 ≤ k → k < k0 + d → (∀ j, k0 ≤ j → j < k → ¬ (tTk L (tW (8 + j)) τ).1 = true) → tNmA L τ d k0 = (some k, (tTk L (tW (8 + k)) τ).2) := by
  intro d
  induction d with
  | zero => intro k0 h1 h3; omega
  | succ d ih =>
    intro k0 h1 h3 hn
    rw [tNmA]
    by_cases e : k0 = k
    · rw [e, if_pos h2]
    · rw [if_neg (hn k0 (Nat.le_refl _) (by omega))]
      exact ih (k0 + 1) (by omega) (by omega) (fun j q1 q2 => hn j (by omega) q2)
theorem tNm_at {L : List Nat} {τ : rdE} {k : Nat} (hk : k < 7) (hn : ∀ j, j < k → ¬ (tTk L (tW (8 + j)) τ).1 = true) (h : (tTk L (tW (8 + k)) τ).1 = true) : tNm L τ = (some k, (tTk L (tW (8 + k)) τ).2) := tNmA_at h 7 0 (Nat.zero_le _) (by omega) (fun j _ hj => hn j hj)
theorem tNmA_no {L : List Nat} {τ : rdE} : ∀ d k0, (∀ j, k0 ≤ j → j < k0 + d → ¬ (tTk L (tW (8 + j)) τ).1 = true) → tNmA L τ d k0 = (none, τ) := by
  intro d
  induction d with
  | zero => intro k0 _; rfl
  | succ d ih =>
    intro k0 hn
    rw [tNmA, if_neg (hn k0 (Nat.le_refl _) (by omega))]
    exact ih (k0 + 1) (fun j q1 q2 => hn j (by omega) (by omega))
theorem tNm_no {L : List Nat} {τ : rdE} (hn : ∀ j, j < 7 → ¬ (tTk L (tW (8 + j)) τ).1 = true) : tNm L τ = (none, τ) := tNmA_no 7 0 (fun j _ hj => hn j (by omega))
theorem tIs_l {L W : List Nat} {p : Nat} (hW : 0 < W.length) (hp : p ≤ L.length) (h : tIs L p W = true) : p < L.length ∧ 97 ≤ bA L p := by
  have e := tIs_we h
  have := tWe_in (i := 0) hp (by omega)
  rw [Nat.add_zero] at this
  exact ⟨this.1, (of_decide_eq_true this.2).1⟩
theorem tTk_l {L W : List Nat} {τ : rdE} (hW : 0 < W.length) (h : (tTk L W τ).1 = true) : ∃ p, τ = .inl p ∧ p < L.length ∧ 97 ≤ bA L p := by
  obtain ⟨p, e, i, -⟩ := tTk_ok h
  by_cases hp : p ≤ L.length
  · exact ⟨p, e, tIs_l hW hp i⟩
  · exfalso
    have e2 := tIs_we i
    have : tWe L p = p := by
      unfold tWe
      rw [show L.length - p = 0 by omega, zfar]
    omega
theorem tDg_l {L : List Nat} {τ : rdE} (h : tDg L τ = true) : ∃ p, τ = .inl p ∧ p < L.length ∧ bA L p ≤ 57 ∧ 48 ≤ bA L p := by
  cases τ with
  | inr f => cases h
  | inl p =>
    have h2 : p < L.length ∧ bDg L p = true := of_decide_eq_true h
    have h3 := of_decide_eq_true h2.2
    exact ⟨p, rfl, h2.1, h3.2, h3.1⟩
theorem wpos (i : Nat) (hi : i < 16) : 0 < (tW i).length := by
  have := (tW_at i hi).2.2.2.2
  omega
theorem ex_dw {L : List Nat} {τ : rdE} (h : tDg L τ = true) {i : Nat} (hi : i < 16) : ¬ (tTk L (tW i) τ).1 = true := fun z => by
  obtain ⟨p, e, h1, h2, h3⟩ := tDg_l h
  obtain ⟨p', e', g1, g2⟩ := tTk_l (wpos i hi) z
  rw [e] at e'
  cases e'
  omega
theorem ex_ds {L : List Nat} {τ : rdE} (h : tDg L τ = true) : ¬ (tTs L 40 τ).1 = true := fun z => by
  obtain ⟨p, e, h1, h2, h3⟩ := tDg_l h
  obtain ⟨p', e', g1, -⟩ := tTs_ok z
  rw [e] at e'
  cases e'
  omega
theorem ex_sw {L : List Nat} {τ : rdE} (h : (tTs L 40 τ).1 = true) {i : Nat} (hi : i < 16) : ¬ (tTk L (tW i) τ).1 = true := fun z => by
  obtain ⟨p, e, h1, -⟩ := tTs_ok h
  obtain ⟨p', e', g1, g2⟩ := tTk_l (wpos i hi) z
  rw [e] at e'
  cases e'
  omega
theorem tNum_nd {L : List Nat} {a b : Nat} {τ : rdE} (h : ¬ tDg L τ = true) : tNum L a b τ = (0, tFl τ 1 (tPo τ)) := by
  cases τ with
  | inr f => rfl
  | inl p => exact if_neg (fun z => h (decide_eq_true z))
/-! two in brackets, one in braces -/
theorem p_two {L : List Nat} {RCf : Nat → Nat → Int32 → zV → Option zV} {RC : tRC} {o : Nat} (ho : o ≤ 6) (hc : o < 6 → cOK L (RCf 27 1 (nI (o + 1))) (RC (o + 1))) (hg : o < 6 → sGd L (RC (o + 1))) {P : sL} {τ1 τ : rdE} {v : zV} (h : rdC L τ1 v) (hd : ∀ p, τ1 = .inl p → dLw P v ∧ P.length ≤ p) {x : Int32} (hx : ∀ p, τ = .inl p → x = nI p) (hl : ∃ p, τ = .inl p) (c : Nat) : ∃ w, fX5_readTwo RCf 27 1 (nI o) x v = some w ∧ rdC L (tTw L RC o c τ τ1).2 w ∧ (∀ q, (tTw L RC o c τ τ1).2 = .inl q → ∃ Q, P ++ (tTw L RC o c τ τ1).1 = Q ++ [(c, 0)] ∧ dLw Q w ∧ Q.length < q ∧ q ≤ L.length) ∧ fr5 v w := by
  obtain ⟨p, hp⟩ := hl
  unfold fX5_readTwo tTw
  by_cases g : 6 ≤ o
  · obtain ⟨w, hw, wR, wf⟩ := p_fail h (k := 3) (pl := tPo τ) (by decide) (y := x) (fun p' _ => by rw [hx p hp, hp]; rfl)
    rw [if_neg (show ¬ nI o < (6 : Int32) from fun z => by have := (nI_lt' (b := 6) (by omega) (by omega)).mp z; omega), if_pos g]
    refine ⟨w, ?_, wR, fun q hq => absurd hq tFl_no, fr5_1 wf⟩
    rw [show (3 : Int32) = nI 3 from rfl, hw, zbindv_some]
  · have g6 : o < 6 := by omega
    obtain ⟨G1, G2⟩ := hg g6
    rw [if_pos (show nI o < (6 : Int32) from (nI_lt' (b := 6) (by omega) (by omega)).mpr g6), if_neg g, show (nI o + 1 : Int32) = nI (o + 1) from nI_add _ 1]
    obtain ⟨u0, hu0, u0R, u0f⟩ := p_sign h (c := 91) (by decide)
    obtain ⟨u1, hu1, u1R, u1d, u1f⟩ := hc g6 P (tSg L 91 τ1) u0 u0R (fun p0 h0 => by
      obtain ⟨pp, e, l0, m0⟩ := tSg_lt h0
      exact ⟨dLw_1 (hd pp e).1 u0f, by have := (hd pp e).2; omega⟩)
    obtain ⟨u2, hu2, u2R, u2f⟩ := p_sign u1R (c := 44) (by decide)
    obtain ⟨u3, hu3, u3R, u3d, u3f⟩ := hc g6 (P ++ (RC (o + 1) (tSg L 91 τ1)).1) (tSg L 44 (RC (o + 1) (tSg L 91 τ1)).2) u2 u2R (fun p2 h2 => by
      obtain ⟨p1, e1, l1, m1⟩ := tSg_lt h2
      refine ⟨dLw_1 (u1d p1 e1) u2f, ?_⟩
      cases e0 : tSg L 91 τ1 with
      | inr f => rw [e0, G1] at e1; cases e1
      | inl p0 =>
        obtain ⟨pp, ee, l0, m0⟩ := tSg_lt e0
        rw [e0] at e1
        obtain ⟨a1, a2, a3, a4⟩ := G2 p0 p1 m0 e1
        have := (hd pp ee).2
        rw [List.length_append]
        omega)
    obtain ⟨w, hw, wR, wf⟩ := p_sign u3R (c := 93) (by decide)
    refine ⟨w, ?_, wR, fun q hq => ?_, fr5_tr (fr5_1 u0f) (fr5_tr u1f (fr5_tr (fr5_1 u2f) (fr5_tr u3f (fr5_1 wf))))⟩
    · rw [show (91 : Int32) = nI 91 from rfl, hu0, zbindv_some, hu1, zbindv_some, show (44 : Int32) = nI 44 from rfl, hu2, zbindv_some, hu3, zbindv_some, show (93 : Int32) = nI 93 from rfl, hw, zbindv_some]
    · dsimp only at hq ⊢
      obtain ⟨p3, e3, l3, m3⟩ := tSg_lt hq
      refine ⟨P ++ (RC (o + 1) (tSg L 91 τ1)).1 ++ (RC (o + 1) (tSg L 44 (RC (o + 1) (tSg L 91 τ1)).2)).1, by simp only [List.append_assoc], dLw_1 (u3d p3 e3) wf, ?_, m3⟩
      cases e2 : tSg L 44 (RC (o + 1) (tSg L 91 τ1)).2 with
      | inr f => rw [e2, G1] at e3; cases e3
      | inl p2 =>
        obtain ⟨p1, e1, l1, m1⟩ := tSg_lt e2
        cases e0 : tSg L 91 τ1 with
        | inr f => rw [e0, G1] at e1; cases e1
        | inl p0 =>
          obtain ⟨pp, ee, l0, m0⟩ := tSg_lt e0
          rw [e0] at e1 e2 e3
          rw [e2] at e3
          obtain ⟨a1, a2, a3, a4⟩ := G2 p0 p1 m0 e1
          obtain ⟨b1, b2, b3, b4⟩ := G2 p2 p3 m1 e3
          have := (hd pp ee).2
          rw [List.length_append, List.length_append]
          omega
theorem p_braced {L : List Nat} {RCf : Nat → Nat → Int32 → zV → Option zV} {RC : tRC} {o : Nat} (ho : o ≤ 6) (hc : o < 6 → cOK L (RCf 27 1 (nI (o + 1))) (RC (o + 1))) {P : sL} {τ1 τ : rdE} {v : zV} (h : rdC L τ1 v) (hd : ∀ p, τ1 = .inl p → dLw P v ∧ P.length ≤ p) {x : Int32} (hx : ∀ p, τ = .inl p → x = nI p) (hl : ∃ p, τ = .inl p) : ∃ w, fX5_readBraced RCf 27 1 (nI o) x v = some w ∧ rdC L (tBr L RC o τ τ1).2 w ∧ (∀ q, (tBr L RC o τ τ1).2 = .inl q → dLw (P ++ (tBr L RC o τ τ1).1) w) ∧ fr5 v w := by
  obtain ⟨p, hp⟩ := hl
  unfold fX5_readBraced tBr
  by_cases g : 6 ≤ o
  · obtain ⟨w, hw, wR, wf⟩ := p_fail h (k := 3) (pl := tPo τ) (by decide) (y := x) (fun p' _ => by rw [hx p hp, hp]; rfl)
    rw [if_neg (show ¬ nI o < (6 : Int32) from fun z => by have := (nI_lt' (b := 6) (by omega) (by omega)).mp z; omega), if_pos g]
    refine ⟨w, ?_, wR, fun q hq => absurd hq tFl_no, fr5_1 wf⟩
    rw [show (3 : Int32) = nI 3 from rfl, hw, zbindv_some]
  · have g6 : o < 6 := by omega
    rw [if_pos (show nI o < (6 : Int32) from (nI_lt' (b := 6) (by omega) (by omega)).mpr g6), if_neg g, show (nI o + 1 : Int32) = nI (o + 1) from nI_add _ 1]
    obtain ⟨u1, hu1, u1R, u1d, u1f⟩ := hc g6 P τ1 v h hd
    obtain ⟨w, hw, wR, wf⟩ := p_sign u1R (c := 41) (by decide)
    refine ⟨w, ?_, wR, fun q hq => ?_, fr5_tr u1f (fr5_1 wf)⟩
    · rw [hu1, zbindv_some, show (41 : Int32) = nI 41 from rfl, hw, zbindv_some]
    · obtain ⟨p3, e3, l3, m3⟩ := tSg_lt hq
      exact dLw_1 (u1d p3 e3) wf
theorem p_name {L : List Nat} (hL : L.length ≤ 150) {P : sL} {τ : rdE} {v : zV} (h : rdC L τ v) (hnd : ¬ tDg L τ = true) (hd : ∀ p, τ = .inl p → dLw P v ∧ P.length ≤ p) : ∃ w, fX5_readName 27 1 v = some w ∧ rdC L (match (tNm L τ).1 with | some _ => (tNm L τ).2 | none => (tNum L 0 1000 τ).2) w ∧ (∀ q, (match (tNm L τ).1 with | some _ => (tNm L τ).2 | none => (tNum L 0 1000 τ).2) = .inl q → dLw (P ++ (match (tNm L τ).1 with | some k => [(1, k)] | none => [(0, (tNum L 0 1000 τ).1)])) w) ∧ fr5 v w := by
  have fin : ∀ (k : Nat) (u : zV) (x : Int32), k < 7 → x = sEnc (1, k) → (∀ j, j < k → ¬ (tTk L (tW (8 + j)) τ).1 = true) → (tTk L (tW (8 + k)) τ).1 = true → rdC L (tTk L (tW (8 + k)) τ).2 u → fr1 v u → ∃ w, fX5_add 27 x u = some w ∧ rdC L (match (tNm L τ).1 with | some _ => (tNm L τ).2 | none => (tNum L 0 1000 τ).2) w ∧ (∀ q, (match (tNm L τ).1 with | some _ => (tNm L τ).2 | none => (tNum L 0 1000 τ).2) = .inl q → dLw (P ++ (match (tNm L τ).1 with | some k => [(1, k)] | none => [(0, (tNum L 0 1000 τ).1)])) w) ∧ fr5 v w := by
    intro k u x hk hx hn hy uR uf
    rw [tNm_at hk hn hy]
    obtain ⟨w, hw, wd, wa⟩ := p_add x u
    refine ⟨w, hw, rdC_add uR wa, fun q hq => ?_, fr5_tr (fr5_1 uf) (fr5_add wa)⟩
    obtain ⟨p, e, i, e2⟩ := tTk_ok hy
    have hp : p ≤ L.length := by rw [e] at h; exact (rdC_np h).1
    have le := tIs_le hp i
    have w3 := (tW_at (8 + k) (by omega)).2.2.2.2
    have h2 := (hd p e).2
    exact wd P (1, k) (dLw_1 (hd p e).1 uf) (by omega) hx
  unfold fX5_readName
  obtain ⟨u0, hu0, R0, f0, X0⟩ := p_takesWord h (i := 8) (by decide)
  rw [hu0, zbind_some]
  by_cases g0 : (tTk L (tW 8) τ).1 = true
  · obtain ⟨w, hw, z⟩ := fin 0 u0 (-7) (by decide) (by decide) (fun j hj => absurd hj (Nat.not_lt_zero j)) g0 R0 (f0)
    refine ⟨w, ?_, z⟩
    rw [if_pos g0, if_neg (show ¬ (1 : Int32) = 0 by decide), hw, zbindv_some]
  have r0 : rdC L τ u0 := by rw [tTk_no g0] at R0; exact R0
  rw [if_neg g0, if_pos rfl]
  obtain ⟨u1, hu1, R1, f1, X1⟩ := p_takesWord r0 (i := 9) (by decide)
  rw [hu1, zbind_some]
  by_cases g1 : (tTk L (tW 9) τ).1 = true
  · obtain ⟨w, hw, z⟩ := fin 1 u1 (-8) (by decide) (by decide) (fun j hj => by
        obtain rfl : j = 0 := by omega
        exact g0) g1 R1 (fr1_tr f0 f1)
    refine ⟨w, ?_, z⟩
    rw [if_pos g1, if_neg (show ¬ (1 : Int32) = 0 by decide), hw, zbindv_some]
  have r1 : rdC L τ u1 := by rw [tTk_no g1] at R1; exact R1
  rw [if_neg g1, if_pos rfl]
  obtain ⟨u2, hu2, R2, f2, X2⟩ := p_takesWord r1 (i := 10) (by decide)
  rw [hu2, zbind_some]
  by_cases g2 : (tTk L (tW 10) τ).1 = true
  · obtain ⟨w, hw, z⟩ := fin 2 u2 (-9) (by decide) (by decide) (fun j hj => by
        have : j = 0 ∨ j = 1 := by omega
        rcases this with rfl | rfl
        · exact g0
        · exact g1) g2 R2 (fr1_tr (fr1_tr f0 f1) f2)
    refine ⟨w, ?_, z⟩
    rw [if_pos g2, if_neg (show ¬ (1 : Int32) = 0 by decide), hw, zbindv_some]
  have r2 : rdC L τ u2 := by rw [tTk_no g2] at R2; exact R2
  rw [if_neg g2, if_pos rfl]
  obtain ⟨u3, hu3, R3, f3, X3⟩ := p_takesWord r2 (i := 11) (by decide)
  rw [hu3, zbind_some]
  by_cases g3 : (tTk L (tW 11) τ).1 = true
  · obtain ⟨w, hw, z⟩ := fin 3 u3 (-10) (by decide) (by decide) (fun j hj => by
        have : j = 0 ∨ j = 1 ∨ j = 2 := by omega
        rcases this with rfl | rfl | rfl
        · exact g0
        · exact g1
        · exact g2) g3 R3 (fr1_tr (fr1_tr (fr1_tr f0 f1) f2) f3)
    refine ⟨w, ?_, z⟩
    rw [if_pos g3, if_neg (show ¬ (1 : Int32) = 0 by decide), hw, zbindv_some]
  have r3 : rdC L τ u3 := by rw [tTk_no g3] at R3; exact R3
  rw [if_neg g3, if_pos rfl]
  obtain ⟨u4, hu4, R4, f4, X4⟩ := p_takesWord r3 (i := 12) (by decide)
  rw [hu4, zbind_some]
  by_cases g4 : (tTk L (tW 12) τ).1 = true
  · obtain ⟨w, hw, z⟩ := fin 4 u4 (-11) (by decide) (by decide) (fun j hj => by
        have : j = 0 ∨ j = 1 ∨ j = 2 ∨ j = 3 := by omega
        rcases this with rfl | rfl | rfl | rfl
        · exact g0
        · exact g1
        · exact g2
        · exact g3) g4 R4 (fr1_tr (fr1_tr (fr1_tr (fr1_tr f0 f1) f2) f3) f4)
    refine ⟨w, ?_, z⟩
    rw [if_pos g4, if_neg (show ¬ (1 : Int32) = 0 by decide), hw, zbindv_some]
  have r4 : rdC L τ u4 := by rw [tTk_no g4] at R4; exact R4
  rw [if_neg g4, if_pos rfl]
  obtain ⟨u5, hu5, R5, f5, X5⟩ := p_takesWord r4 (i := 13) (by decide)
  rw [hu5, zbind_some]
  by_cases g5 : (tTk L (tW 13) τ).1 = true
  · obtain ⟨w, hw, z⟩ := fin 5 u5 (-12) (by decide) (by decide) (fun j hj => by
        have : j = 0 ∨ j = 1 ∨ j = 2 ∨ j = 3 ∨ j = 4 := by omega
        rcases this with rfl | rfl | rfl | rfl | rfl
        · exact g0
        · exact g1
        · exact g2
        · exact g3
        · exact g4) g5 R5 (fr1_tr (fr1_tr (fr1_tr (fr1_tr (fr1_tr f0 f1) f2) f3) f4) f5)
    refine ⟨w, ?_, z⟩
    rw [if_pos g5, if_neg (show ¬ (1 : Int32) = 0 by decide), hw, zbindv_some]
  have r5 : rdC L τ u5 := by rw [tTk_no g5] at R5; exact R5
  rw [if_neg g5, if_pos rfl]
  obtain ⟨u6, hu6, R6, f6, X6⟩ := p_takesWord r5 (i := 14) (by decide)
  rw [hu6, zbind_some]
  by_cases g6 : (tTk L (tW 14) τ).1 = true
  · obtain ⟨w, hw, z⟩ := fin 6 u6 (-13) (by decide) (by decide) (fun j hj => by
        have : j = 0 ∨ j = 1 ∨ j = 2 ∨ j = 3 ∨ j = 4 ∨ j = 5 := by omega
        rcases this with rfl | rfl | rfl | rfl | rfl | rfl
        · exact g0
        · exact g1
        · exact g2
        · exact g3
        · exact g4
        · exact g5) g6 R6 (fr1_tr (fr1_tr (fr1_tr (fr1_tr (fr1_tr (fr1_tr f0 f1) f2) f3) f4) f5) f6)
    refine ⟨w, ?_, z⟩
    rw [if_pos g6, if_neg (show ¬ (1 : Int32) = 0 by decide), hw, zbindv_some]
  have r6 : rdC L τ u6 := by rw [tTk_no g6] at R6; exact R6
  rw [if_neg g6, if_pos rfl]
  have hX : exC τ u6 := by
    have := X6 (Bool.eq_false_iff.mpr g6)
    rw [tTk_no g6] at this
    exact this
  obtain ⟨w, hw, wR, wf⟩ := p_misfit r6 (pl := tPo τ) hX (fun p hp => by rw [hp]; rfl)
  rw [tNm_no (fun j hj => by
    have : j = 0 ∨ j = 1 ∨ j = 2 ∨ j = 3 ∨ j = 4 ∨ j = 5 ∨ j = 6 := by omega
    rcases this with rfl | rfl | rfl | rfl | rfl | rfl | rfl
    · exact g0
    · exact g1
    · exact g2
    · exact g3
    · exact g4
    · exact g5
    · exact g6), tNum_nd hnd]
  exact ⟨w, by rw [hw, zbindv_some], wR, fun q hq => absurd hq tFl_no, fr5_1 (fr1_tr (fr1_tr (fr1_tr (fr1_tr (fr1_tr (fr1_tr (fr1_tr (f0) f1) f2) f3) f4) f5) f6) wf)⟩
/-- a unit -/
theorem p_unit {L : List Nat} (hL : L.length ≤ 150) {RCf : Nat → Nat → Int32 → zV → Option zV} {RC : tRC} {o : Nat} (ho : o ≤ 6) (hc : o < 6 → cOK L (RCf 27 1 (nI (o + 1))) (RC (o + 1))) (hg : o < 6 → sGd L (RC (o + 1))) : cOK L (fX5_readUnit RCf 27 1 (nI o)) (tUn L RC o) := by
  intro P τ v h hd
  obtain ⟨x, u1, hu1, hxp, R1, -, f1⟩ := p_lookAt h
  obtain ⟨u2, hu2, R2, -, f2⟩ := p_looksAtDigit R1
  unfold fX5_readUnit
  rw [hu1, zbind_some, hu2, zbind_some]
  by_cases cd : tDg L τ = true
  · obtain ⟨r, u3, hu3, R3, hr, f3⟩ := p_number R2 (okBd_l (a := 0) (b := 999) (by decide) (by decide))
    obtain ⟨w, hw, wd, wa⟩ := p_add r u3
    have e : tUn L RC o τ = ([(0, (tNum L 0 1000 τ).1)], (tNum L 0 1000 τ).2) := by
      unfold tUn
      rw [if_neg (ex_dw cd (by decide)), if_neg (ex_dw cd (by decide)), if_neg (ex_ds cd), tNm_no (fun j hj => ex_dw cd (by omega))]
    rw [e]
    refine ⟨w, ?_, rdC_add R3 wa, fun q hq => ?_, fr5_tr (fr5_1 (fr1_tr f1 (fr1_tr f2 f3))) (fr5_add wa)⟩
    · rw [if_pos cd, if_neg (show ¬ (1 : Int32) = 0 by decide), show (0 : Int32) = nI 0 from rfl, show (999 : Int32) = nI 999 from rfl, hu3, zbind_some, hw, zbindv_some]
    · obtain ⟨p, ep, hp1, -⟩ := tDg_l cd
      have hq2 : (tNum L 0 1000 τ).2 = .inl q := hq
      have hq3 := hq2
      rw [ep] at hq2
      obtain ⟨a1, a2, a3⟩ := tNum_lt (show p ≤ L.length by omega) hq2
      have h2 := (hd p ep).2
      refine wd P (0, (tNum L 0 1000 τ).1) (dLw_1 (hd p ep).1 (fr1_tr f1 (fr1_tr f2 f3))) (by omega) ?_
      rw [hr q hq3]
      rfl
  rw [if_neg cd, if_pos rfl]
  obtain ⟨u3, hu3, R3, f3⟩ := p_takesSign R2 (c := 40) (by decide)
  rw [show (40 : Int32) = nI 40 from rfl, hu3, zbind_some]
  by_cases cs : (tTs L 40 τ).1 = true
  · have e : tUn L RC o τ = tBr L RC o τ (tTs L 40 τ).2 := by
      unfold tUn
      rw [if_neg (ex_sw cs (by decide)), if_neg (ex_sw cs (by decide)), if_pos cs]
    obtain ⟨p, ep, ip, ep2⟩ := tTs_ok cs
    obtain ⟨w, hw, wR, wd, wf⟩ := p_braced (RC := RC) ho hc R3 (P := P) (τ := τ) (x := x) (fun p1 hp1 => by
      rw [ep2] at hp1
      cases hp1
      refine ⟨dLw_1 (hd p ep).1 (fr1_tr f1 (fr1_tr f2 f3)), ?_⟩
      have := (hd p ep).2
      have := tSk_ge L (p + 1)
      omega) hxp ⟨p, ep⟩
    rw [e]
    refine ⟨w, ?_, wR, wd, fr5_tr (fr5_1 (fr1_tr f1 (fr1_tr f2 f3))) wf⟩
    rw [if_pos cs, if_neg (show ¬ (1 : Int32) = 0 by decide), hw, zbindv_some]
  rw [if_neg cs, if_pos rfl]
  have R3' : rdC L τ u3 := by rw [tTs_no cs] at R3; exact R3
  obtain ⟨u4, hu4, R4, f4, -⟩ := p_takesWord R3' (i := 6) (by decide)
  rw [hu4, zbind_some]
  have two : ∀ (i c : Nat) (u : zV), i < 16 → (tTk L (tW i) τ).1 = true → rdC L (tTk L (tW i) τ).2 u → fr1 v u → ∃ w, fX5_readTwo RCf 27 1 (nI o) x u = some w ∧ rdC L (tTw L RC o c τ (tTk L (tW i) τ).2).2 w ∧ (∀ q, (tTw L RC o c τ (tTk L (tW i) τ).2).2 = .inl q → ∃ Q, P ++ (tTw L RC o c τ (tTk L (tW i) τ).2).1 = Q ++ [(c, 0)] ∧ dLw Q w ∧ Q.length < q ∧ q ≤ L.length) ∧ fr5 u w := by
    intro i c u hi hy uR uf
    obtain ⟨p, ep, ip, ep2⟩ := tTk_ok hy
    exact p_two (RC := RC) ho hc hg uR (P := P) (τ := τ) (x := x) (fun p1 hp1 => by
      rw [ep2] at hp1
      cases hp1
      refine ⟨dLw_1 (hd p ep).1 uf, ?_⟩
      have := (hd p ep).2
      have := tSk_ge L (p + (tW i).length)
      omega) hxp ⟨p, ep⟩ c
  by_cases c6 : (tTk L (tW 6) τ).1 = true
  · have e : tUn L RC o τ = tTw L RC o 6 τ (tTk L (tW 6) τ).2 := if_pos c6
    obtain ⟨u5, hu5, R5, d5, f5⟩ := two 6 6 u4 (by decide) c6 R4 (fr1_tr f1 (fr1_tr f2 (fr1_tr f3 f4)))
    obtain ⟨w, hw, wd, wa⟩ := p_add (-5) u5
    rw [e]
    refine ⟨w, ?_, rdC_add R5 wa, fun q hq => ?_, fr5_tr (fr5_1 (fr1_tr f1 (fr1_tr f2 (fr1_tr f3 f4)))) (fr5_tr f5 (fr5_add wa))⟩
    · rw [if_pos c6, if_neg (show ¬ (1 : Int32) = 0 by decide), hu5, zbindv_some, hw, zbindv_some]
    · obtain ⟨Q, q1, q2, q3, q4⟩ := d5 q hq
      rw [q1]
      exact wd Q (6, 0) q2 (by omega) (by decide)
  rw [if_neg c6, if_pos rfl]
  have R4' : rdC L τ u4 := by rw [tTk_no c6] at R4; exact R4
  obtain ⟨u5, hu5, R5, f5, -⟩ := p_takesWord R4' (i := 7) (by decide)
  rw [hu5, zbind_some]
  by_cases c7 : (tTk L (tW 7) τ).1 = true
  · have e : tUn L RC o τ = tTw L RC o 7 τ (tTk L (tW 7) τ).2 := by
      unfold tUn
      rw [if_neg c6, if_pos c7]
    obtain ⟨u6, hu6, R6, d6, f6⟩ := two 7 7 u5 (by decide) c7 R5 (fr1_tr f1 (fr1_tr f2 (fr1_tr f3 (fr1_tr f4 f5))))
    obtain ⟨w, hw, wd, wa⟩ := p_add (-6) u6
    rw [e]
    refine ⟨w, ?_, rdC_add R6 wa, fun q hq => ?_, fr5_tr (fr5_1 (fr1_tr f1 (fr1_tr f2 (fr1_tr f3 (fr1_tr f4 f5))))) (fr5_tr f6 (fr5_add wa))⟩
    · rw [if_pos c7, if_neg (show ¬ (1 : Int32) = 0 by decide), hu6, zbindv_some, hw, zbindv_some]
    · obtain ⟨Q, q1, q2, q3, q4⟩ := d6 q hq
      rw [q1]
      exact wd Q (7, 0) q2 (by omega) (by decide)
  rw [if_neg c7, if_pos rfl]
  have R5' : rdC L τ u5 := by rw [tTk_no c7] at R5; exact R5
  have f15 := fr1_tr f1 (fr1_tr f2 (fr1_tr f3 (fr1_tr f4 f5)))
  obtain ⟨w, hw, wR, wd, wf⟩ := p_name hL R5' cd (P := P) (fun p hp => ⟨dLw_1 (hd p hp).1 f15, (hd p hp).2⟩)
  have e : tUn L RC o τ = ((match (tNm L τ).1 with | some k => [(1, k)] | none => [(0, (tNum L 0 1000 τ).1)]), (match (tNm L τ).1 with | some _ => (tNm L τ).2 | none => (tNum L 0 1000 τ).2)) := by
    unfold tUn
    rw [if_neg c6, if_neg c7, if_neg cs]
    cases (tNm L τ).1 <;> rfl
  rw [e]
  refine ⟨w, ?_, wR, wd, fr5_tr (fr5_1 f15) wf⟩
  rw [hw, zbindv_some]
theorem p_prodL {L : List Nat} (hL : L.length ≤ 150) {RCf : Nat → Nat → Int32 → zV → Option zV} {U : rdE → sL × rdE} {o : Int32} (hU : cOK L (fX5_readUnit RCf 27 1 o) U) (hg : sGd L U) : ∀ (d n j : Nat) (P Q : sL) (τ : rdE) (v : zV), j + d = 150 → d < n → rdC L τ v → (∀ p, τ = .inl p → dLw (P ++ Q) v ∧ (P ++ Q).length ≤ p) → ∃ w, fX5_readProduct_8 RCf n 27 1 o (nI j) v = some w ∧ rdC L (tCh L U 42 47 4 5 d Q τ).2 w ∧ (∀ q, (tCh L U 42 47 4 5 d Q τ).2 = .inl q → dLw (P ++ (tCh L U 42 47 4 5 d Q τ).1) w) ∧ fr5 v w := by
  intro d
  induction d with
  | zero =>
    intro n j P Q τ v e hn h hd
    obtain ⟨n, rfl⟩ : ∃ k, n = k + 1 := ⟨n - 1, by omega⟩
    refine ⟨v, ?_, h, fun q hq => (hd q hq).1, fr5_1 (fr1_rf v)⟩
    rw [fX5_readProduct_8]
    dsimp only
    rw [if_pos (show (150 : Int32) ≤ nI j from leY (a := 150) (by omega) (by omega) (by omega))]
  | succ d ih =>
    intro n j P Q τ v e hn h hd
    obtain ⟨n, rfl⟩ : ∃ k, n = k + 1 := ⟨n - 1, by omega⟩
    have go : ∀ (c z : Nat) (s : Int32) (u : zV), s = sEnc (z, 0) → (tTs L c τ).1 = true → rdC L (tTs L c τ).2 u → fr1 v u → ∃ u2, (zbindv (fX5_readUnit RCf 27 1 o u) fun v_7 => zbindv (fX5_add 27 s v_7) fun v_8 => (fX5_readProduct_8 RCf n) 27 1 o (nI j + (1 : Int32)) v_8) = fX5_readProduct_8 RCf n 27 1 o (nI (j + 1)) u2 ∧ rdC L (U (tTs L c τ).2).2 u2 ∧ (∀ p, (U (tTs L c τ).2).2 = .inl p → dLw (P ++ (Q ++ (U (tTs L c τ).2).1 ++ [(z, 0)])) u2 ∧ (P ++ (Q ++ (U (tTs L c τ).2).1 ++ [(z, 0)])).length ≤ p) ∧ fr5 v u2 := by
      intro c z s u hs hy uR uf
      obtain ⟨p, ep, ip, ep2⟩ := tTs_ok hy
      have hge := tSk_ge L (p + 1)
      have hle := tSk_le L (show p + 1 ≤ L.length by omega)
      obtain ⟨h1, h2⟩ := hd p ep
      obtain ⟨u1, hu1, R1, d1, f1⟩ := hU (P ++ Q) (tTs L c τ).2 u uR (fun p1 hp1 => by
        rw [ep2] at hp1
        cases hp1
        exact ⟨dLw_1 h1 uf, by omega⟩)
      obtain ⟨u2, hu2, d2, a2⟩ := p_add s u1
      refine ⟨u2, ?_, rdC_add R1 a2, fun p1 hp1 => ?_, fr5_tr (fr5_1 uf) (fr5_tr f1 (fr5_add a2))⟩
      · rw [hu1, zbindv_some, hu2, zbindv_some, show (nI j + 1 : Int32) = nI (j + 1) from nI_add _ 1]
      · have hp2 := hp1
        rw [ep2] at hp2
        obtain ⟨b1, b2, b3, b4⟩ := hg.2 _ p1 hle hp2
        rw [ep2] at d1
        have hlen : (P ++ Q ++ (U (.inl (tSk L (p + 1)))).1).length < p1 := by rw [List.length_append]; omega
        have d3 := d2 (P ++ Q ++ (U (.inl (tSk L (p + 1)))).1) (z, 0) (d1 p1 hp2) (by omega) hs
        rw [ep2]
        rw [show P ++ (Q ++ (U (.inl (tSk L (p + 1)))).1 ++ [(z, 0)]) = P ++ Q ++ (U (.inl (tSk L (p + 1)))).1 ++ [(z, 0)] by simp only [List.append_assoc]]
        refine ⟨d3, ?_⟩
        rw [len_app]
        omega
    obtain ⟨u1, hu1, R1, f1⟩ := p_takesSign h (c := 42) (by decide)
    rw [fX5_readProduct_8]
    dsimp only
    rw [if_neg (show ¬ (150 : Int32) ≤ nI j from leN (a := 150) (by omega) (by omega) (by omega)), show (42 : Int32) = nI 42 from rfl, hu1, zbind_some, tCh]
    by_cases ca : (tTs L 42 τ).1 = true
    · obtain ⟨u2, hu2, R2, d2, f2⟩ := go 42 4 (-3) u1 (by decide) ca R1 f1
      obtain ⟨w, hw, wR, wd, wf⟩ := ih n (j + 1) P (Q ++ (U (tTs L 42 τ).2).1 ++ [(4, 0)]) (U (tTs L 42 τ).2).2 u2 (by omega) (by omega) R2 d2
      rw [if_pos ca, if_neg (show ¬ (1 : Int32) = 0 by decide), if_pos ca]
      exact ⟨w, hu2.trans hw, wR, wd, fr5_tr f2 wf⟩
    have R1' : rdC L τ u1 := by rw [tTs_no ca] at R1; exact R1
    obtain ⟨u2, hu2, R2, f2⟩ := p_takesSign R1' (c := 47) (by decide)
    rw [if_neg ca, if_pos rfl, if_neg ca, show (47 : Int32) = nI 47 from rfl, hu2, zbind_some]
    by_cases cb : (tTs L 47 τ).1 = true
    · obtain ⟨u3, hu3, R3, d3, f3⟩ := go 47 5 (-4) u2 (by decide) cb R2 (fr1_tr f1 f2)
      obtain ⟨w, hw, wR, wd, wf⟩ := ih n (j + 1) P (Q ++ (U (tTs L 47 τ).2).1 ++ [(5, 0)]) (U (tTs L 47 τ).2).2 u3 (by omega) (by omega) R3 d3
      rw [if_pos cb, if_neg (show ¬ (1 : Int32) = 0 by decide), if_pos cb]
      exact ⟨w, hu3.trans hw, wR, wd, fr5_tr f3 wf⟩
    have R2' : rdC L τ u2 := by rw [tTs_no cb] at R2; exact R2
    rw [if_neg cb, if_pos rfl, if_neg cb]
    exact ⟨u2, rfl, R2', fun q hq => dLw_1 (hd q hq).1 (fr1_tr f1 f2) |> id, fr5_1 (fr1_tr f1 f2)⟩
theorem p_sumL {L : List Nat} (hL : L.length ≤ 150) {RCf : Nat → Nat → Int32 → zV → Option zV} {U : rdE → sL × rdE} {o : Int32} (hU : cOK L (fX5_readProduct RCf 27 1 o) U) (hg : sGd L U) : ∀ (d n j : Nat) (P Q : sL) (τ : rdE) (v : zV), j + d = 150 → d < n → rdC L τ v → (∀ p, τ = .inl p → dLw (P ++ Q) v ∧ (P ++ Q).length ≤ p) → ∃ w, fX5_readSum_8 RCf n 27 1 o (nI j) v = some w ∧ rdC L (tCh L U 43 45 2 3 d Q τ).2 w ∧ (∀ q, (tCh L U 43 45 2 3 d Q τ).2 = .inl q → dLw (P ++ (tCh L U 43 45 2 3 d Q τ).1) w) ∧ fr5 v w := by
  intro d
  induction d with
  | zero =>
    intro n j P Q τ v e hn h hd
    obtain ⟨n, rfl⟩ : ∃ k, n = k + 1 := ⟨n - 1, by omega⟩
    refine ⟨v, ?_, h, fun q hq => (hd q hq).1, fr5_1 (fr1_rf v)⟩
    rw [fX5_readSum_8]
    dsimp only
    rw [if_pos (show (150 : Int32) ≤ nI j from leY (a := 150) (by omega) (by omega) (by omega))]
  | succ d ih =>
    intro n j P Q τ v e hn h hd
    obtain ⟨n, rfl⟩ : ∃ k, n = k + 1 := ⟨n - 1, by omega⟩
    have go : ∀ (c z : Nat) (s : Int32) (u : zV), s = sEnc (z, 0) → (tTs L c τ).1 = true → rdC L (tTs L c τ).2 u → fr1 v u → ∃ u2, (zbindv (fX5_readProduct RCf 27 1 o u) fun v_7 => zbindv (fX5_add 27 s v_7) fun v_8 => (fX5_readSum_8 RCf n) 27 1 o (nI j + (1 : Int32)) v_8) = fX5_readSum_8 RCf n 27 1 o (nI (j + 1)) u2 ∧ rdC L (U (tTs L c τ).2).2 u2 ∧ (∀ p, (U (tTs L c τ).2).2 = .inl p → dLw (P ++ (Q ++ (U (tTs L c τ).2).1 ++ [(z, 0)])) u2 ∧ (P ++ (Q ++ (U (tTs L c τ).2).1 ++ [(z, 0)])).length ≤ p) ∧ fr5 v u2 := by
      intro c z s u hs hy uR uf
      obtain ⟨p, ep, ip, ep2⟩ := tTs_ok hy
      have hge := tSk_ge L (p + 1)
      have hle := tSk_le L (show p + 1 ≤ L.length by omega)
      obtain ⟨h1, h2⟩ := hd p ep
      obtain ⟨u1, hu1, R1, d1, f1⟩ := hU (P ++ Q) (tTs L c τ).2 u uR (fun p1 hp1 => by
        rw [ep2] at hp1
        cases hp1
        exact ⟨dLw_1 h1 uf, by omega⟩)
      obtain ⟨u2, hu2, d2, a2⟩ := p_add s u1
      refine ⟨u2, ?_, rdC_add R1 a2, fun p1 hp1 => ?_, fr5_tr (fr5_1 uf) (fr5_tr f1 (fr5_add a2))⟩
      · rw [hu1, zbindv_some, hu2, zbindv_some, show (nI j + 1 : Int32) = nI (j + 1) from nI_add _ 1]
      · have hp2 := hp1
        rw [ep2] at hp2
        obtain ⟨b1, b2, b3, b4⟩ := hg.2 _ p1 hle hp2
        rw [ep2] at d1
        have hlen : (P ++ Q ++ (U (.inl (tSk L (p + 1)))).1).length < p1 := by rw [List.length_append]; omega
        have d3 := d2 (P ++ Q ++ (U (.inl (tSk L (p + 1)))).1) (z, 0) (d1 p1 hp2) (by omega) hs
        rw [ep2]
        rw [show P ++ (Q ++ (U (.inl (tSk L (p + 1)))).1 ++ [(z, 0)]) = P ++ Q ++ (U (.inl (tSk L (p + 1)))).1 ++ [(z, 0)] by simp only [List.append_assoc]]
        refine ⟨d3, ?_⟩
        rw [len_app]
        omega
    obtain ⟨u1, hu1, R1, f1⟩ := p_takesSign h (c := 43) (by decide)
    rw [fX5_readSum_8]
    dsimp only
    rw [if_neg (show ¬ (150 : Int32) ≤ nI j from leN (a := 150) (by omega) (by omega) (by omega)), show (43 : Int32) = nI 43 from rfl, hu1, zbind_some, tCh]
    by_cases ca : (tTs L 43 τ).1 = true
    · obtain ⟨u2, hu2, R2, d2, f2⟩ := go 43 2 (-1) u1 (by decide) ca R1 f1
      obtain ⟨w, hw, wR, wd, wf⟩ := ih n (j + 1) P (Q ++ (U (tTs L 43 τ).2).1 ++ [(2, 0)]) (U (tTs L 43 τ).2).2 u2 (by omega) (by omega) R2 d2
      rw [if_pos ca, if_neg (show ¬ (1 : Int32) = 0 by decide), if_pos ca]
      exact ⟨w, hu2.trans hw, wR, wd, fr5_tr f2 wf⟩
    have R1' : rdC L τ u1 := by rw [tTs_no ca] at R1; exact R1
    obtain ⟨u2, hu2, R2, f2⟩ := p_takesSign R1' (c := 45) (by decide)
    rw [if_neg ca, if_pos rfl, if_neg ca, show (45 : Int32) = nI 45 from rfl, hu2, zbind_some]
    by_cases cb : (tTs L 45 τ).1 = true
    · obtain ⟨u3, hu3, R3, d3, f3⟩ := go 45 3 (-2) u2 (by decide) cb R2 (fr1_tr f1 f2)
      obtain ⟨w, hw, wR, wd, wf⟩ := ih n (j + 1) P (Q ++ (U (tTs L 45 τ).2).1 ++ [(3, 0)]) (U (tTs L 45 τ).2).2 u3 (by omega) (by omega) R3 d3
      rw [if_pos cb, if_neg (show ¬ (1 : Int32) = 0 by decide), if_pos cb]
      exact ⟨w, hu3.trans hw, wR, wd, fr5_tr f3 wf⟩
    have R2' : rdC L τ u2 := by rw [tTs_no cb] at R2; exact R2
    rw [if_neg cb, if_pos rfl, if_neg cb]
    exact ⟨u2, rfl, R2', fun q hq => dLw_1 (hd q hq).1 (fr1_tr f1 f2) |> id, fr5_1 (fr1_tr f1 f2)⟩
theorem p_product {L : List Nat} (hL : L.length ≤ 150) {RCf : Nat → Nat → Int32 → zV → Option zV} {RC : tRC} {o : Nat} (ho : o ≤ 6) (hc : o < 6 → cOK L (RCf 27 1 (nI (o + 1))) (RC (o + 1))) (hg : o < 6 → sGd L (RC (o + 1))) : cOK L (fX5_readProduct RCf 27 1 (nI o)) (tPd L RC o) := by
  intro P τ v h hd
  have hU := p_unit hL ho hc hg
  have hs := sGd_un hg
  obtain ⟨u, hu, uR, ud, uf⟩ := hU P τ v h hd
  obtain ⟨w, hw, wR, wd, wf⟩ := p_prodL hL hU hs 150 zFU 0 P (tUn L RC o τ).1 (tUn L RC o τ).2 u rfl (by unfold zFU; omega) uR (fun p1 hp1 => by
    refine ⟨ud p1 hp1, ?_⟩
    cases τ with
    | inr f => rw [hs.1] at hp1; cases hp1
    | inl p =>
      obtain ⟨b1, b2, b3, b4⟩ := hs.2 p p1 (rdC_np h).1 hp1
      have := (hd p rfl).2
      rw [List.length_append]
      omega)
  refine ⟨w, ?_, wR, wd, fr5_tr uf wf⟩
  unfold fX5_readProduct
  rw [hu, zbindv_some]
  exact hw
theorem p_sumR {L : List Nat} (hL : L.length ≤ 150) {RCf : Nat → Nat → Int32 → zV → Option zV} {RC : tRC} {o : Nat} (ho : o ≤ 6) (hc : o < 6 → cOK L (RCf 27 1 (nI (o + 1))) (RC (o + 1))) (hg : o < 6 → sGd L (RC (o + 1))) : cOK L (fX5_readSum RCf 27 1 (nI o)) (tSu L RC o) := by
  intro P τ v h hd
  have hU := p_product hL ho hc hg
  have hs := sGd_pd hg
  obtain ⟨u, hu, uR, ud, uf⟩ := hU P τ v h hd
  obtain ⟨w, hw, wR, wd, wf⟩ := p_sumL hL hU hs 150 zFU 0 P (tPd L RC o τ).1 (tPd L RC o τ).2 u rfl (by unfold zFU; omega) uR (fun p1 hp1 => by
    refine ⟨ud p1 hp1, ?_⟩
    cases τ with
    | inr f => rw [hs.1] at hp1; cases hp1
    | inl p =>
      obtain ⟨b1, b2, b3, b4⟩ := hs.2 p p1 (rdC_np h).1 hp1
      have := (hd p rfl).2
      rw [List.length_append]
      omega)
  refine ⟨w, ?_, wR, wd, fr5_tr uf wf⟩
  unfold fX5_readSum
  rw [hu, zbindv_some]
  exact hw
theorem p_sumD {L : List Nat} (hL : L.length ≤ 150) : ∀ (D o : Nat), o ≤ 6 → 7 ≤ o + D → cOK L (fX5_readSumD D 27 1 (nI o)) (tSm L D o) := by
  intro D
  induction D with
  | zero => intro o h1 h2; omega
  | succ D ih =>
    intro o h1 h2
    exact p_sumR hL h1 (fun h => ih (o + 1) (by omega) (by omega)) (fun h => sGd_sm D (o + 1) (by omega) (by omega))
end
