/-! BOOK -/
section
def tPo (τ : rdE) : Nat := match τ with
  | .inl p => p
  | .inr _ => 0
def tLn2 (L : List Nat) (k : Nat) (τ : rdE) : rdE := if 12 ≤ k then tFl (tNum L 1 61 τ).2 3 (tPo τ) else (tNum L 1 61 τ).2
def tLn3 (L : List Nat) (M : Nat) (τ : rdE) : Option Nat × rdE := if (tTk L (tW 15) τ).1 = true then (none, (tTk L (tW 15) τ).2) else (some (tNum L 0 M τ).1, (tNum L 0 M τ).2)
def tLn (L : List Nat) (M k : Nat) (τ : rdE) : rdE := tSg L 59 (tLn3 L M (tLn2 L k τ)).2
def tLv (L : List Nat) (M k : Nat) (τ : rdE) : Nat × Option Nat := ((tNum L 1 61 τ).1, (tLn3 L M (tLn2 L k τ)).1)
def tBk (L : List Nat) (M : Nat) : Nat → sB → rdE → sB × rdE
  | 0, β, τ => (β, τ)
  | _ + 1, β, .inr f => (β, .inr f)
  | d + 1, β, .inl p => if p < L.length then tBk L M d (β ++ [tLv L M β.length (.inl p)]) (tLn L M β.length (.inl p)) else (β, .inl p)
theorem tSg_ok {L : List Nat} {c : Nat} {τ : rdE} {q : Nat} (h : tSg L c τ = .inl q) : ∃ p, τ = .inl p := by
  cases τ with
  | inl p => exact ⟨p, rfl⟩
  | inr f => cases h
theorem tFl_no {τ : rdE} {k pl q : Nat} : ¬ tFl τ k pl = .inl q := by
  cases τ <;> exact fun h => (by cases h)
theorem tNum_ok {L : List Nat} {a b : Nat} {τ : rdE} {q : Nat} (h : (tNum L a b τ).2 = .inl q) : a ≤ (tNum L a b τ).1 ∧ (tNum L a b τ).1 < b ∧ ∃ p, τ = .inl p ∧ p < L.length ∧ bDg L p = true ∧ q = tSk L (tDig L (L.length - p) p 0).1 := by
  cases τ with
  | inr f => cases h
  | inl p =>
    unfold tNum at h ⊢
    dsimp only at h ⊢
    by_cases c : p < L.length ∧ bDg L p = true
    · rw [if_pos c] at h ⊢
      by_cases g : a ≤ (tDig L (L.length - p) p 0).2 ∧ (tDig L (L.length - p) p 0).2 < b
      · rw [if_pos g] at h ⊢
        cases h
        exact ⟨g.1, g.2, p, rfl, c.1, c.2, rfl⟩
      · rw [if_neg g] at h
        cases h
    · rw [if_neg c] at h
      cases h
theorem tLn_ok {L : List Nat} {M k : Nat} {τ : rdE} {q : Nat} (h : tLn L M k τ = .inl q) : k < 12 ∧ (1 ≤ (tLv L M k τ).1 ∧ (tLv L M k τ).1 ≤ 60) ∧ ∀ m, (tLv L M k τ).2 = some m → m < M := by
  obtain ⟨p3, h3⟩ := tSg_ok h
  have h2 : ∃ p2, tLn2 L k τ = .inl p2 := by
    cases e : tLn2 L k τ with
    | inl p2 => exact ⟨p2, rfl⟩
    | inr f =>
      rw [e] at h3
      cases h3
  obtain ⟨p2, h2⟩ := h2
  have hk : ¬ 12 ≤ k := fun z => by
    unfold tLn2 at h2
    rw [if_pos z] at h2
    exact tFl_no h2
  unfold tLn2 at h2
  rw [if_neg hk] at h2
  obtain ⟨g1, g2, -⟩ := tNum_ok h2
  refine ⟨by omega, ⟨g1, by show (tNum L 1 61 τ).1 ≤ 60; omega⟩, fun m hm => ?_⟩
  have hm2 : (tLn3 L M (tLn2 L k τ)).1 = some m := hm
  unfold tLn3 at hm2 h3
  by_cases c : (tTk L (tW 15) (tLn2 L k τ)).1 = true
  · rw [if_pos c] at hm2
    cases hm2
  · rw [if_neg c] at hm2 h3
    have := (tNum_ok h3).2.1
    cases hm2
    exact this
theorem tLt_tk {L W : List Nat} (hW : 0 < W.length) {τ : rdE} (h : ¬ tLt L τ = true) : ¬ (tTk L W τ).1 = true := by
  rw [tTk_1]
  cases τ with
  | inr f => exact fun z => (by cases z)
  | inl p =>
    intro z
    have z2 : tIs L p W = true := z
    have e := tIs_we z2
    refine h (decide_eq_true ?_)
    by_cases hp : p ≤ L.length
    · have := tWe_in (i := 0) hp (by omega)
      rw [Nat.add_zero] at this
      exact this
    · have : tWe L p = p := by
        unfold tWe
        rw [show L.length - p = 0 by omega, zfar]
      omega
theorem tLt_num {L : List Nat} {a b : Nat} {τ : rdE} (h : tLt L τ = true) : ∃ p, τ = .inl p ∧ tNum L a b τ = (0, .inr (1, p)) := by
  cases τ with
  | inr f => cases h
  | inl p =>
    refine ⟨p, rfl, if_neg (fun z => ?_)⟩
    have h1 := of_decide_eq_true (of_decide_eq_true h : p < L.length ∧ bLt L p = true).2
    have h2 := of_decide_eq_true z.2
    omega
/-! the class -/
theorem l35 : zlen 35 = 12 := by decide +kernel
theorem l36 : zlen 36 = 12 := by decide +kernel
theorem rr_34_1 : zrf 34 1 = 35 := by decide +kernel
theorem rr_34_2 : zrf 34 2 = 36 := by decide +kernel
def dBk (β : sB) (v : zV) : Prop := v 34 0 = nI β.length ∧ ∀ k, k < β.length → v 35 k = nI (bY β k) ∧ v 36 k = oI (bM β k)
def fr3 (v w : zV) : Prop := (∀ a, a ≠ 1 → a ≠ 34 → a ≠ 35 → a ≠ 36 → w a = v a) ∧ ∀ k, k ≠ 2 → k ≠ 3 → k ≠ 5 → w 1 k = v 1 k
theorem fr3_tr {v w u : zV} (h1 : fr3 v w) (h2 : fr3 w u) : fr3 v u := ⟨fun a g1 g2 g3 g4 => (h2.1 a g1 g2 g3 g4).trans (h1.1 a g1 g2 g3 g4), fun k g1 g2 g3 => (h2.2 k g1 g2 g3).trans (h1.2 k g1 g2 g3)⟩
theorem fr3_1 {v w : zV} (h : fr1 v w) : fr3 v w := ⟨fun a g _ _ _ => h.1 a g, h.2⟩
theorem rdC_fr {L : List Nat} {τ : rdE} {v w : zV} (h : rdC L τ v) (e1 : w 1 = v 1) (e2 : w 2 = v 2) : rdC L τ w := by
  unfold rdC bBC at *
  rw [e1, e2]
  exact h
theorem p_set12 {a : Nat} (ha : zlen a = 12) {k : Nat} (hk : k ≤ 12) (x : Int32) (v : zV) : ∃ w, fX9_set a (nI k) x v = some w ∧ (k < 12 → w = zup v a k x) ∧ ∀ b, b ≠ a → w b = v b := by
  by_cases c : k < 12
  · exact ⟨zup v a k x, p_set (by omega) x v, fun _ => rfl, fun b g => p_up_a _ _ _ g⟩
  · refine ⟨v, p_set0 (Or.inr ?_) x v, fun z => absurd z c, fun _ _ => rfl⟩
    rw [ha]
    exact leY (a := 12) (by omega) (by omega) (by omega)
theorem p_line65 {L : List Nat} {τ : rdE} {v : zV} (h : rdC L τ v) {k : Nat} (hk : k ≤ 12) (h34 : v 34 0 = nI k) (y r : Int32) : ∃ w, fX1_readLine_65 34 1 y r v = some w ∧ rdC L (tSg L 59 τ) w ∧ w 34 0 = nI (k + 1) ∧ (k < 12 → w 35 k = y ∧ w 36 k = r) ∧ (∀ j, j ≠ k → w 35 j = v 35 j ∧ w 36 j = v 36 j) ∧ fr3 v w := by
  obtain ⟨u, hu, uR, uf⟩ := p_sign h (c := 59) (by decide)
  have u34 : u 34 = v 34 := uf.1 34 (by decide)
  obtain ⟨x, hx, hx2, hxa⟩ := p_set12 l35 hk y u
  obtain ⟨z, hz, hz2, hza⟩ := p_set12 l36 hk r x
  have x34 : x 34 = v 34 := (hxa 34 (by decide)).trans u34
  have z34 : z 34 = v 34 := (hza 34 (by decide)).trans x34
  have ea : ∀ a, a ≠ 34 → zup z 34 0 (nI (k + 1)) a = z a := fun a g => p_up_a _ _ _ g
  refine ⟨zup z 34 0 (nI (k + 1)), ?_, rdC_fr uR ?_ ?_, p_up_s _ _ _ _, fun c => ⟨?_, ?_⟩, fun j hj => ⟨?_, ?_⟩, fun a g1 g2 g3 g4 => ?_, fun j g1 g2 g3 => ?_⟩
  · unfold fX1_readLine_65
    rw [show (59 : Int32) = nI 59 from rfl, hu, zbindv_some, rr_34_1, u34, h34, hx, zbindv_some, rr_34_2, x34, h34, hz, zbindv_some, zlet_eq, z34, h34, show (nI k + 1 : Int32) = nI (k + 1) from nI_add _ 1]
  · rw [ea 1 (by decide), hza 1 (by decide), hxa 1 (by decide)]
  · rw [ea 2 (by decide), hza 2 (by decide), hxa 2 (by decide)]
  · rw [ea 35 (by decide), hza 35 (by decide), hx2 c, p_up_s]
  · rw [ea 36 (by decide), hz2 c, p_up_s]
  · rw [ea 35 (by decide), hza 35 (by decide), ← uf.1 35 (by decide)]
    by_cases c : k < 12
    · rw [hx2 c, p_up_n _ _ (Or.inr hj)]
    · have : x = u := by
        have e := p_set0 (a := 35) (i := nI k) (Or.inr (by rw [l35]; exact leY (a := 12) (by omega) (by omega) (by omega))) y u
        rw [hx] at e
        exact Option.some.inj e
      rw [this]
  · rw [ea 36 (by decide)]
    have e0 : x 36 j = v 36 j := by rw [hxa 36 (by decide), uf.1 36 (by decide)]
    by_cases c : k < 12
    · rw [hz2 c, p_up_n _ _ (Or.inr hj), e0]
    · have : z = x := by
        have e := p_set0 (a := 36) (i := nI k) (Or.inr (by rw [l36]; exact leY (a := 12) (by omega) (by omega) (by omega))) r x
        rw [hz] at e
        exact Option.some.inj e
      rw [this, e0]
  · rw [ea a g2, hza a g4, hxa a g3, uf.1 a g1]
  · rw [ea 1 (by decide), hza 1 (by decide), hxa 1 (by decide), uf.2 j g1 g2 g3]
theorem p_line {L : List Nat} {M p k : Nat} (hM : M ≤ 16) (hk : k ≤ 12) {v : zV} (h : rdC L (.inl p) v) (h34 : v 34 0 = nI k) : ∃ w, fX1_readLine 34 1 (nI M) v = some w ∧ rdC L (tLn L M k (.inl p)) w ∧ (∀ q, tLn L M k (.inl p) = .inl q → w 34 0 = nI (k + 1) ∧ w 35 k = nI (tLv L M k (.inl p)).1 ∧ w 36 k = oI (tLv L M k (.inl p)).2 ∧ ∀ j, j ≠ k → w 35 j = v 35 j ∧ w 36 j = v 36 j) ∧ fr3 v w := by
  obtain ⟨x, u1, hu1, hxp, u1R, u1X, u1f⟩ := p_lookAt h
  obtain ⟨r, u2, hu2, u2R, hr, u2f⟩ := p_number u1R (okBd_l (a := 1) (b := 60) (by decide) (by decide))
  have u2_34 : u2 34 0 = nI k := by rw [u2f.1 34 (by decide), u1f.1 34 (by decide)]; exact h34
  -- the count
  have hB : ∃ u3, (if (u2 34 0) < (12 : Int32) then fX1_readLine_29 34 1 (nI M) r u2 else zbindv (fX8_fail 1 (3 : Int32) x u2) fun v_5 => fX1_readLine_29 34 1 (nI M) r v_5) = fX1_readLine_29 34 1 (nI M) r u3 ∧ rdC L (tLn2 L k (.inl p)) u3 ∧ fr1 u2 u3 := by
    unfold tLn2
    by_cases c : 12 ≤ k
    · obtain ⟨u3, hu3, u3R, u3f⟩ := p_fail u2R (k := 3) (pl := p) (by decide) (y := x) (fun _ _ => hxp p rfl)
      refine ⟨u3, ?_, ?_, u3f⟩
      · rw [u2_34, if_neg (show ¬ nI k < (12 : Int32) from fun z => by have := (nI_lt' (b := 12) (by omega) (by omega)).mp z; omega), show (3 : Int32) = nI 3 from rfl, hu3, zbindv_some]
      · rw [if_pos c]
        exact u3R
    · refine ⟨u2, ?_, ?_, fr1_rf _⟩
      · rw [u2_34, if_pos (show nI k < (12 : Int32) from (nI_lt' (b := 12) (by omega) (by omega)).mpr (by omega))]
      · rw [if_neg c]
        exact u2R
  obtain ⟨u3, hu3, u3R, u3f⟩ := hB
  -- who
  have hC : ∃ u4 r4, fX1_readLine_29 34 1 (nI M) r u3 = fX1_readLine_65 34 1 r r4 u4 ∧ rdC L (tLn3 L M (tLn2 L k (.inl p))).2 u4 ∧ (∀ q, (tLn3 L M (tLn2 L k (.inl p))).2 = .inl q → r4 = oI (tLn3 L M (tLn2 L k (.inl p))).1) ∧ fr1 u3 u4 := by
    obtain ⟨u5, hu5, u5R, u5X, u5f⟩ := p_looksAtLetter u3R
    unfold fX1_readLine_29
    generalize hτ : tLn2 L k (.inl p) = τ at *
    by_cases c : tLt L τ = true
    · rw [if_pos c] at hu5
      obtain ⟨u6, hu6, u6R, u6f, u6X⟩ := p_takesWord u5R (i := 15) (by decide)
      rw [hu5, zbind_some, if_neg (show ¬ (1 : Int32) = 0 by decide), hu6, zbind_some]
      by_cases g : (tTk L (tW 15) τ).1 = true
      · have e : tLn3 L M τ = (none, (tTk L (tW 15) τ).2) := if_pos g
        rw [e]
        refine ⟨u6, -1, ?_, u6R, fun _ _ => rfl, fr1_tr u5f u6f⟩
        rw [if_pos g, if_neg (show ¬ (1 : Int32) = 0 by decide)]
      · obtain ⟨p2, hp2, hn⟩ := tLt_num (a := 0) (b := M) c
        have g2 : (tTk L (tW 15) τ).1 = false := Bool.eq_false_iff.mpr g
        have eτ : (tTk L (tW 15) τ).2 = .inl p2 := by
          rw [hp2] at g ⊢
          unfold tTk at g ⊢
          dsimp only at g ⊢
          by_cases z : tIs L p2 (tW 15) = true
          · rw [if_pos z] at g; exact absurd rfl g
          · rw [if_neg z]
        have e : tLn3 L M τ = (some 0, .inr (1, p2)) := by
          unfold tLn3
          rw [if_neg g, hn]
        rw [eτ] at u6R u6X
        obtain ⟨u7, hu7, u7R, u7f⟩ := p_misfit u6R (pl := p2) (u6X g2) (fun q hq => by cases hq; rfl)
        rw [e]
        refine ⟨u7, -1, ?_, u7R, fun q hq => (by cases hq), fr1_tr u5f (fr1_tr u6f u7f)⟩
        rw [if_neg g, if_pos rfl, hu7, zbindv_some]
    · rw [if_neg c] at hu5
      obtain ⟨r7, u7, hu7, u7R, hr7, u7f⟩ := p_number u5R (okBd_n (b := M) (by omega))
      have e : tLn3 L M τ = (some (tNum L 0 M τ).1, (tNum L 0 M τ).2) := if_neg (tLt_tk (by decide +kernel) c)
      rw [e]
      refine ⟨u7, r7, ?_, u7R, fun q hq => hr7 q hq, fr1_tr u5f u7f⟩
      rw [hu5, zbind_some, if_pos rfl, hu7, zbind_some]
  obtain ⟨u4, r4, hu4, u4R, hr4, u4f⟩ := hC
  have hf4 : fr1 v u4 := fr1_tr u1f (fr1_tr u2f (fr1_tr u3f u4f))
  obtain ⟨w, hw, wR, w34, wk, wj, wf⟩ := p_line65 u4R hk (by rw [hf4.1 34 (by decide)]; exact h34) r r4
  refine ⟨w, ?_, wR, fun q hq => ?_, fr3_tr (fr3_1 hf4) wf⟩
  · unfold fX1_readLine
    rw [hu1, zbind_some, show (1 : Int32) = nI 1 from rfl, show (60 : Int32) = nI 60 from rfl, hu2, zbind_some, hu3, hu4, hw]
  · obtain ⟨k12, -, -⟩ := tLn_ok hq
    obtain ⟨p3, h3⟩ := tSg_ok hq
    have h2 : ∃ p2, tLn2 L k (.inl p) = .inl p2 := by
      cases e : tLn2 L k (.inl p) with
      | inl p2 => exact ⟨p2, rfl⟩
      | inr f => rw [e] at h3; cases h3
    obtain ⟨p2, h2⟩ := h2
    have h1 : (tNum L 1 61 (.inl p)).2 = .inl p2 := by
      unfold tLn2 at h2
      rw [if_neg (by omega)] at h2
      exact h2
    refine ⟨w34, (wk k12).1.trans (hr p2 h1), (wk k12).2.trans (hr4 p3 h3), fun j hj => ?_⟩
    obtain ⟨j1, j2⟩ := wj j hj
    exact ⟨by rw [j1, hf4.1 35 (by decide)], by rw [j2, hf4.1 36 (by decide)]⟩
theorem bY_app {β : sB} {x : Nat × Option Nat} {k : Nat} (h : k < β.length) : bY (β ++ [x]) k = bY β k ∧ bM (β ++ [x]) k = bM β k := by
  unfold bY bM
  rw [List.getD_eq_getElem?_getD, List.getElem?_append, if_pos h, ← List.getD_eq_getElem?_getD]
  exact ⟨rfl, rfl⟩
theorem bY_new {β : sB} {x : Nat × Option Nat} : bY (β ++ [x]) β.length = x.1 ∧ bM (β ++ [x]) β.length = x.2 := by
  unfold bY bM
  rw [List.getD_eq_getElem?_getD, List.getElem?_append, if_neg (Nat.lt_irrefl _), Nat.sub_self]
  exact ⟨rfl, rfl⟩
theorem len_app {α : Type} (β : List α) (x : α) : (β ++ [x]).length = β.length + 1 := by rw [List.length_append]; rfl
theorem p_bookL {L : List Nat} {M : Nat} (hM : M ≤ 16) : ∀ (d n : Nat) (β : sB) (τ : rdE) (v : zV), β.length + d = 13 → d < n → rdC L τ v → (∀ p, τ = .inl p → dBk β v) → ∃ w, fX1_read_7 n 34 1 (nI M) (nI β.length) v = some w ∧ rdC L (tBk L M d β τ).2 w ∧ (∀ q, (tBk L M d β τ).2 = .inl q → dBk (tBk L M d β τ).1 w) ∧ fr3 v w := by
  intro d
  induction d with
  | zero =>
    intro n β τ v e hn h hd
    obtain ⟨n, rfl⟩ : ∃ k, n = k + 1 := ⟨n - 1, by omega⟩
    refine ⟨v, ?_, h, fun q hq => hd q hq, fr3_1 (fr1_rf v)⟩
    rw [fX1_read_7]
    dsimp only
    rw [if_pos (show (12 : Int32) < nI β.length from (nI_lt' (a := 12) (by omega) (by omega)).mpr (by omega))]
  | succ d ih =>
    intro n β τ v e hn h hd
    obtain ⟨n, rfl⟩ : ∃ k, n = k + 1 := ⟨n - 1, by omega⟩
    obtain ⟨u, hu, uR, uX, ua, uk⟩ := p_look h
    have uf := lk_fr ua uk
    have h12 : ¬ (12 : Int32) < nI β.length := fun z => by have := (nI_lt' (a := 12) (by omega) (by omega)).mp z; omega
    cases τ with
    | inr f =>
      refine ⟨u, ?_, uR, fun q hq => (by cases hq), fr3_1 uf⟩
      rw [fX1_read_7]
      dsimp only
      rw [if_neg h12, hu, zbind_some, if_pos (show tLk L (.inr f) = (-1 : Int32) from rfl)]
    | inl p =>
      have hp := rdC_np uR
      have hL := uR.1.1
      by_cases c : p < L.length
      · have e1 : tBk L M (d + 1) β (.inl p) = tBk L M d (β ++ [tLv L M β.length (.inl p)]) (tLn L M β.length (.inl p)) := if_pos c
        rw [e1]
        obtain ⟨w, hw, wR, wq, wf⟩ := p_line hM (show β.length ≤ 12 by omega) uR (by rw [ua 34 (by decide)]; exact (hd p rfl).1)
        have hd0 := hd p rfl
        obtain ⟨z, hz, zR, zd, zf⟩ := ih n (β ++ [tLv L M β.length (.inl p)]) (tLn L M β.length (.inl p)) w (by rw [len_app]; omega) (by omega) wR (fun q hq => by
          obtain ⟨w34, w35, w36, wj⟩ := wq q hq
          refine ⟨by rw [w34, len_app], fun k hk => ?_⟩
          rw [len_app] at hk
          by_cases g : k = β.length
          · rw [g, w35, w36, bY_new.1, bY_new.2]
            exact ⟨rfl, rfl⟩
          · obtain ⟨j1, j2⟩ := wj k g
            rw [j1, j2, (bY_app (by omega)).1, (bY_app (by omega)).2, ua 35 (by decide), ua 36 (by decide)]
            exact hd0.2 k (by omega))
        refine ⟨z, ?_, zR, zd, fr3_tr (fr3_1 uf) (fr3_tr wf zf)⟩
        rw [fX1_read_7]
        dsimp only
        have hb : bA L p < 256 := (uR.1.2.2 p c).2
        rw [if_neg h12, hu, zbind_some, if_neg (show ¬ tLk L (.inl p) = (-1 : Int32) from fun q => by
          have q2 : nI (bA L p) = -nI 1 := (if_pos c : bQt L p = nI (bA L p)).symm.trans q
          have := (ng_eq (a := bA L p) (k := 1) (by omega) (by decide) (by decide))
          rw [this] at q2
          exact q2), hw, zbindv_some, show (nI β.length + 1 : Int32) = nI (β.length + 1) from nI_add _ 1]
        rw [len_app] at hz
        exact hz
      · have e1 : tBk L M (d + 1) β (.inl p) = (β, .inl p) := if_neg c
        rw [e1]
        refine ⟨u, ?_, uR, fun q hq => ⟨by rw [ua 34 (by decide)]; exact (hd p rfl).1, fun k hk => by rw [ua 35 (by decide), ua 36 (by decide)]; exact (hd p rfl).2 k hk⟩, fr3_1 uf⟩
        rw [fX1_read_7]
        dsimp only
        rw [if_neg h12, hu, zbind_some, if_pos (show tLk L (.inl p) = (-1 : Int32) from if_neg c)]
theorem tBk_ok {α : sA} {L : List Nat} : ∀ (d : Nat) (β : sB) (τ : rdE) (q : Nat), okBk α β → β.length + d = 13 → (tBk L (α 0 1) d β τ).2 = .inl q → (d = 0 → β.length ≤ 12) → okBk α (tBk L (α 0 1) d β τ).1 := by
  intro d
  induction d with
  | zero => intro β τ q h _ _ _; exact h
  | succ d ih =>
    intro β τ q h e hq _
    cases τ with
    | inr f => cases hq
    | inl p =>
      by_cases c : p < L.length
      · have e1 : tBk L (α 0 1) (d + 1) β (.inl p) = tBk L (α 0 1) d (β ++ [tLv L (α 0 1) β.length (.inl p)]) (tLn L (α 0 1) β.length (.inl p)) := if_pos c
        rw [e1] at hq ⊢
        have hln : ∃ q2, tLn L (α 0 1) β.length (.inl p) = .inl q2 := by
          cases ee : tLn L (α 0 1) β.length (.inl p) with
          | inl q2 => exact ⟨q2, rfl⟩
          | inr f =>
            rw [ee] at hq
            cases d with
            | zero => cases hq
            | succ d => cases hq
        obtain ⟨q2, hq2⟩ := hln
        obtain ⟨g1, g2, g3⟩ := tLn_ok hq2
        refine ih _ _ q ⟨by rw [len_app]; omega, fun k hk => ?_⟩ (by rw [len_app]; omega) hq (fun _ => by rw [len_app]; omega)
        rw [len_app] at hk
        by_cases g : k = β.length
        · rw [g, bY_new.1, bY_new.2]
          exact ⟨g2, g3⟩
        · rw [(bY_app (by omega)).1, (bY_app (by omega)).2]
          exact h.2 k (by omega)
      · have e1 : tBk L (α 0 1) (d + 1) β (.inl p) = (β, .inl p) := if_neg c
        rw [e1]
        exact h
/-! the reference -/
def eBk (β : sB) (v : zV) : Prop := ∀ k, k < β.length → v (549 + k) 0 = nI (bY β k) ∧ v (549 + k) 1 = oI (bM β k)
def fr4 (v w : zV) : Prop := (∀ a, a ≠ 116 → (a < 549 ∨ 560 < a) → w a = v a) ∧ ∀ k, k ≠ 4 → k ≠ 5 → k ≠ 6 → w 116 k = v 116 k
theorem fr4_tr {v w u : zV} (h1 : fr4 v w) (h2 : fr4 w u) : fr4 v u := ⟨fun a g1 g2 => (h2.1 a g1 g2).trans (h1.1 a g1 g2), fun k g1 g2 g3 => (h2.2 k g1 g2 g3).trans (h1.2 k g1 g2 g3)⟩
theorem fr4_2 {v w : zV} (h : fr2 v w) : fr4 v w := ⟨fun a g _ => h.1 a g, h.2⟩
theorem rdM_fr {L : List Nat} {τ : rdE} {v w : zV} (h : rdM L τ v) (e1 : w 116 = v 116) (e2 : w 117 = v 117) : rdM L τ w := by
  unfold rdM bBM at *
  rw [e1, e2]
  exact h
theorem rx_31 : zrf 116 31 = 548 := by decide +kernel
theorem rx_30 : zrf 116 30 = 535 := by decide +kernel
theorem l548 : zlen 548 = 12 := by decide +kernel
theorem l535 : zlen 535 = 12 := by decide +kernel
theorem p_mLine {L : List Nat} {M p k n : Nat} (hM : M ≤ 16) (hk : k ≤ 12) {v : zV} (h : rdM L (.inl p) v) (hx : exM (.inl p) v) (hp : p < L.length) (h120 : v 120 1 = nI M) : ∃ w, fX10_book_47 (n + 1) 116 (nI k) v = fX10_book_47 n 116 (nI (if (tLn L M k (.inl p)).isLeft = true then k + 1 else k)) w ∧ rdM L (tLn L M k (.inl p)) w ∧ exM (tLn L M k (.inl p)) w ∧ (∀ q, tLn L M k (.inl p) = .inl q → w (549 + k) 0 = nI (tLv L M k (.inl p)).1 ∧ w (549 + k) 1 = oI (tLv L M k (.inl p)).2) ∧ (∀ j, j < k → w (549 + j) = v (549 + j)) ∧ fr4 v w := by
  have hL := h.1.1
  obtain ⟨u2, hu2, u2R, u2f⟩ := p_mNumber h (okBd_l (a := 1) (b := 60) (by decide) (by decide))
  have hB : ∃ u3, (if (u2 116 5) = (0 : Int32) then
          if nI k = (12 : Int32) then
            zbindv (fX10_wrong 116 (3 : Int32) (v 116 4) u2) fun v_3 =>
            fX10_book_98 (fX10_book_47 n) 116 (nI k) (nI (tNum L 1 61 (.inl p)).1) v_3
          else
            fX10_book_98 (fX10_book_47 n) 116 (nI k) (nI (tNum L 1 61 (.inl p)).1) u2
        else
          fX10_book_98 (fX10_book_47 n) 116 (nI k) (nI (tNum L 1 61 (.inl p)).1) u2) = fX10_book_98 (fX10_book_47 n) 116 (nI k) (nI (tNum L 1 61 (.inl p)).1) u3 ∧ rdM L (tLn2 L k (.inl p)) u3 ∧ fr2 u2 u3 := by
    unfold tLn2
    by_cases c : 12 ≤ k
    · rw [if_pos c]
      cases e : (tNum L 1 61 (.inl p)).2 with
      | inl q =>
        rw [show (61 : Nat) = 60 + 1 from rfl] at e
        rw [e] at u2R
        obtain ⟨u3, hu3, u3R, u3f⟩ := p_wrong u2R (k := 3) (pl := p) (by decide) (y := v 116 4) (fun _ _ => hx p rfl)
        refine ⟨u3, ?_, u3R, u3f⟩
        rw [rdM_0 u2R, if_pos (show nI 0 = 0 from rfl), if_pos (show nI k = 12 from by rw [show k = 12 by omega]; rfl), show (3 : Int32) = nI 3 from rfl, hu3, zbindv_some]
      | inr f =>
        rw [show (61 : Nat) = 60 + 1 from rfl] at e
        rw [e] at u2R
        refine ⟨u2, ?_, u2R, fr2_rf _⟩
        rw [if_neg (rdM_n u2R)]
    · rw [if_neg c]
      refine ⟨u2, ?_, u2R, fr2_rf _⟩
      rw [if_neg (show ¬ nI k = 12 from fun z => c (by have := (nI_eq (b := 12) (by omega) (by omega)).mp z; omega))]
      split <;> rfl
  obtain ⟨u3, hu3, u3R, u3f⟩ := hB
  generalize hτ : tLn2 L k (.inl p) = τ at *
  have w15 := wl_at 15 (by decide)
  obtain ⟨u5, hu5, u5R, u5f⟩ := p_takes u3R w15.1 w15.2 w_15
  have u5_120 : u5 120 1 = nI M := by rw [u5f.1 120 (by decide), u3f.1 120 (by decide), u2f.1 120 (by decide)]; exact h120
  have hC : ∃ u4, fX10_book_98 (fX10_book_47 n) 116 (nI k) (nI (tNum L 1 61 (.inl p)).1) u3 = fX10_book_133 (fX10_book_47 n) 116 (nI k) (nI (tNum L 1 61 (.inl p)).1) (oI (tLn3 L M τ).1) u4 ∧ rdM L (tLn3 L M τ).2 u4 ∧ fr2 u3 u4 := by
    unfold fX10_book_98
    by_cases g : (tTk L (tW 15) τ).1 = true
    · have e : tLn3 L M τ = (none, (tTk L (tW 15) τ).2) := if_pos g
      rw [e]
      refine ⟨u5, ?_, u5R, u5f⟩
      rw [hu5, zbind_some, if_pos g, if_neg (show ¬ (1 : Int32) = 0 by decide)]
      rfl
    · have e : tLn3 L M τ = (some (tNum L 0 M τ).1, (tNum L 0 M τ).2) := if_neg g
      have eτ : (tTk L (tW 15) τ).2 = τ := by
        rw [tTk_1] at g
        cases τ with
        | inl p2 => exact congrArg Prod.snd (if_neg g : tTk L (tW 15) (.inl p2) = (false, .inl p2))
        | inr f => rfl
      rw [eτ] at u5R
      obtain ⟨u6, hu6, u6R, u6f⟩ := p_mNumber u5R (okBd_n (b := M) (by omega))
      rw [e]
      refine ⟨u6, ?_, u6R, fr2_tr u5f u6f⟩
      rw [hu5, zbind_some, if_neg g, if_pos rfl, rx_12, l120, show (1 : Int32).toNatClampNeg = 1 from rfl, u5_120]
      show zbind (fX10_number 116 0 (nI M - 1) u5) _ = _
      rw [hu6, zbind_some]
      rfl
  obtain ⟨u4, hu4, u4R, u4f⟩ := hC
  obtain ⟨u7, hu7, u7R, u7f⟩ := p_mSign u4R (c := 59) (by decide)
  have hall : fr2 v u7 := fr2_tr u2f (fr2_tr u3f (fr2_tr u4f u7f))
  have hstep : fX10_book_47 (n + 1) 116 (nI k) v = fX10_book_133 (fX10_book_47 n) 116 (nI k) (nI (tNum L 1 61 (.inl p)).1) (oI (tLn3 L M τ).1) u4 := by
    rw [fX10_book_47]
    dsimp only
    rw [rdM_0 h, if_pos (show nI 0 = 0 from rfl), h.1.2.1, hx p rfl, if_neg (leN (by omega) (by omega) (by omega)), show (1 : Int32) = nI 1 from rfl, show (60 : Int32) = nI 60 from rfl, hu2, zbind_some]
    rw [hx p rfl] at hu3
    exact hu3.trans hu4
  have eln : tLn L M k (.inl p) = tSg L 59 (tLn3 L M τ).2 := by unfold tLn; rw [hτ]
  have elv : tLv L M k (.inl p) = ((tNum L 1 61 (.inl p)).1, (tLn3 L M τ).1) := by unfold tLv; rw [hτ]
  rw [hstep]
  unfold fX10_book_133
  rw [show (59 : Int32) = nI 59 from rfl, hu7, zbindv_some]
  rw [← eln] at u7R
  cases e : tLn L M k (.inl p) with
  | inr f =>
    rw [e] at u7R
    obtain ⟨w, hw, wR, wX, wa, wk⟩ := p_blanks u7R
    refine ⟨w, ?_, wR, wX, fun q hq => (by cases hq), fun j _ => by rw [wa _ (by omega), hall.1 _ (by omega)], fr4_2 (fr2_tr hall (mk_fr wa wk))⟩
    rw [if_neg (rdM_n u7R), hw, zbindv_some]
    rfl
  | inl q =>
    obtain ⟨k12, -, -⟩ := tLn_ok e
    rw [e] at u7R
    have r1 := rfa_548 k k12
    have r2 := lna_548 k k12
    have ea : ∀ a, a ≠ 549 + k → zup (zup u7 (549 + k) 0 (nI (tNum L 1 61 (.inl p)).1)) (549 + k) 1 (oI (tLn3 L M τ).1) a = u7 a := fun a g => by rw [p_up_a _ _ _ g, p_up_a _ _ _ g]
    have e0 : zup (zup u7 (549 + k) 0 (nI (tNum L 1 61 (.inl p)).1)) (549 + k) 1 (oI (tLn3 L M τ).1) (549 + k) 0 = nI (tNum L 1 61 (.inl p)).1 := by rw [p_up_n _ _ (Or.inr (by decide)), p_up_s]
    have e1 : zup (zup u7 (549 + k) 0 (nI (tNum L 1 61 (.inl p)).1)) (549 + k) 1 (oI (tLn3 L M τ).1) (549 + k) 1 = oI (tLn3 L M τ).1 := p_up_s _ _ _ _
    have hz : (zix (nI k) (zlen (zrf 116 31)) <|
    zix (0 : Int32) (zlen (zrf (zrf 116 31) (nI k).toNatClampNeg)) <|
    zlet (zup u7 (zrf (zrf 116 31) (nI k).toNatClampNeg) ((0 : Int32)).toNatClampNeg (nI (tNum L 1 61 (.inl p)).1)) fun v_3 =>
    zix (nI k) (zlen (zrf 116 31)) <|
    zix (1 : Int32) (zlen (zrf (zrf 116 31) (nI k).toNatClampNeg)) <|
    zlet (zup v_3 (zrf (zrf 116 31) (nI k).toNatClampNeg) ((1 : Int32)).toNatClampNeg (oI (tLn3 L M τ).1)) fun v_4 =>
    zbindv (fX10_blanks 116 v_4) fun v_5 =>
    fX10_book_47 n 116 (nI k + (1 : Int32)) v_5) = zbindv (fX10_blanks 116 (zup (zup u7 (549 + k) 0 (nI (tNum L 1 61 (.inl p)).1)) (549 + k) 1 (oI (tLn3 L M τ).1))) fun v_5 => fX10_book_47 n 116 (nI (k + 1)) v_5 := by
      simp (disch := omega) only [rx_31, l548, zix_nI, nI_cl', r1, r2, zlet_eq, show (0 : Int32) = nI 0 from rfl, show (1 : Int32) = nI 1 from rfl, nI_add]
    have tR : rdM L (.inl q) (zup (zup u7 (549 + k) 0 (nI (tNum L 1 61 (.inl p)).1)) (549 + k) 1 (oI (tLn3 L M τ).1)) := rdM_fr u7R (ea 116 (by omega)) (ea 117 (by omega))
    generalize hy : zup (zup u7 (549 + k) 0 (nI (tNum L 1 61 (.inl p)).1)) (549 + k) 1 (oI (tLn3 L M τ).1) = y at ea e0 e1 tR hz
    obtain ⟨w, hw, wR, wX, wa, wk⟩ := p_blanks tR
    refine ⟨w, ?_, wR, wX, fun _ _ => ?_, fun j hj => by rw [wa _ (by omega), ea _ (by omega), hall.1 _ (by omega)], fun a g1 g2 => by rw [wa a g1, ea a (by omega), hall.1 a g1], fun j g1 g2 g3 => by rw [wk j g1, ea 116 (by omega), hall.2 j g1 g2 g3]⟩
    · rw [rdM_0 u7R, if_pos (show nI 0 = 0 from rfl), hz, hw, zbindv_some]
      rfl
    · rw [wa _ (by omega), e0, e1, elv]
      exact ⟨rfl, rfl⟩
theorem p_mBookL {L : List Nat} {M : Nat} (hM : M ≤ 16) : ∀ (d n : Nat) (β : sB) (τ : rdE) (v : zV), β.length + d = 13 → d < n → (∀ p, τ = .inl p → β.length ≤ 12) → rdM L τ v → exM τ v → v 120 1 = nI M → eBk β v → ∃ w m, fX10_book_47 n 116 (nI β.length) v = fX10_book_178 116 (nI m) w ∧ rdM L (tBk L M d β τ).2 w ∧ (∀ q, (tBk L M d β τ).2 = .inl q → m = (tBk L M d β τ).1.length ∧ eBk (tBk L M d β τ).1 w) ∧ fr4 v w := by
  have stop : ∀ (n : Nat) (β : sB) (f : Nat × Nat) (v : zV) (k : Nat), rdM L (.inr f) v → fX10_book_47 (n + 1) 116 (nI k) v = fX10_book_178 116 (nI k) v := by
    intro n β f v k h
    rw [fX10_book_47]
    dsimp only
    rw [if_neg (rdM_n h)]
  intro d
  induction d with
  | zero =>
    intro n β τ v e hn hb h hx h120 hB
    obtain ⟨n, rfl⟩ : ∃ k, n = k + 1 := ⟨n - 1, by omega⟩
    cases τ with
    | inl p => have := hb p rfl; omega
    | inr f => exact ⟨v, β.length, stop n β f v _ h, h, fun q hq => (by cases hq), fr4_2 (fr2_rf v)⟩
  | succ d ih =>
    intro n β τ v e hn hb h hx h120 hB
    obtain ⟨n, rfl⟩ : ∃ k, n = k + 1 := ⟨n - 1, by omega⟩
    cases τ with
    | inr f => exact ⟨v, β.length, stop n β f v _ h, h, fun q hq => (by cases hq), fr4_2 (fr2_rf v)⟩
    | inl p =>
      have hL := h.1.1
      have hp := rdM_np h
      by_cases c : p < L.length
      · have e1 : tBk L M (d + 1) β (.inl p) = tBk L M d (β ++ [tLv L M β.length (.inl p)]) (tLn L M β.length (.inl p)) := if_pos c
        rw [e1]
        obtain ⟨w, hw, wR, wX, wq, wj, wf⟩ := p_mLine (n := n) hM (hb p rfl) h hx c h120
        cases e2 : tLn L M β.length (.inl p) with
        | inr f =>
          rw [e2] at wR hw
          have e3 : tBk L M d (β ++ [tLv L M β.length (.inl p)]) (.inr f) = (β ++ [tLv L M β.length (.inl p)], .inr f) := by cases d <;> rfl
          rw [e3]
          obtain ⟨n, rfl⟩ : ∃ k, n = k + 1 := ⟨n - 1, by omega⟩
          exact ⟨w, β.length, hw.trans (stop n β f w _ wR), wR, fun q hq => (by cases hq), wf⟩
        | inl q =>
          have hq := wq q e2
          have k12 := (tLn_ok e2).1
          rw [e2] at wR wX hw
          obtain ⟨z, m, hz, zR, zq, zf⟩ := ih n (β ++ [tLv L M β.length (.inl p)]) (.inl q) w (by rw [len_app]; omega) (by omega) (fun _ _ => by rw [len_app]; omega) wR wX (by rw [wf.1 120 (by decide) (by decide)]; exact h120) (fun k hk => by
            rw [len_app] at hk
            by_cases g : k = β.length
            · rw [g, bY_new.1, bY_new.2]
              exact hq
            · rw [wj k (by omega), (bY_app (by omega)).1, (bY_app (by omega)).2]
              exact hB k (by omega))
          refine ⟨z, m, ?_, zR, zq, fr4_tr wf zf⟩
          rw [len_app] at hz
          exact hw.trans hz
      · have e1 : tBk L M (d + 1) β (.inl p) = (β, .inl p) := if_neg c
        rw [e1]
        refine ⟨v, β.length, ?_, h, fun _ _ => ⟨rfl, hB⟩, fr4_2 (fr2_rf v)⟩
        rw [fX10_book_47]
        dsimp only
        rw [rdM_0 h, if_pos (show nI 0 = 0 from rfl), h.1.2.1, hx p rfl, if_pos (leY (by omega) (by omega) (by omega))]
end
