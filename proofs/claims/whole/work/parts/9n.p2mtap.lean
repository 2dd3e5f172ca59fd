/-! READING A TEXT: the reference -/
section
def bBM (L : List Nat) (v : zV) : Prop := L.length ≤ 600 ∧ v 116 2 = nI L.length ∧ ∀ i, i < L.length → v 117 i = nI (bA L i) ∧ bA L i < 256
def rdM (L : List Nat) (τ : rdE) (v : zV) : Prop := bBM L v ∧ ∃ p0, p0 ≤ L.length ∧ v 116 4 = nI p0 ∧ match τ with
  | .inl p => v 116 5 = nI 0 ∧ v 116 6 = -nI 1 ∧ tSk L p0 = p
  | .inr f => v 116 5 = nI f.1 ∧ v 116 6 = nI f.2 ∧ 1 ≤ f.1 ∧ f.1 ≤ 4
def exM (τ : rdE) (v : zV) : Prop := ∀ p, τ = .inl p → v 116 4 = nI p
def fr2 (v w : zV) : Prop := (∀ a, a ≠ 116 → w a = v a) ∧ ∀ k, k ≠ 4 → k ≠ 5 → k ≠ 6 → w 116 k = v 116 k
theorem fr2_rf (v : zV) : fr2 v v := ⟨fun _ _ => rfl, fun _ _ _ _ => rfl⟩
theorem fr2_tr {v w u : zV} (h1 : fr2 v w) (h2 : fr2 w u) : fr2 v u := ⟨fun a g => (h2.1 a g).trans (h1.1 a g), fun k g1 g2 g3 => (h2.2 k g1 g2 g3).trans (h1.2 k g1 g2 g3)⟩
theorem fr2_4 (v : zV) (x : Int32) : fr2 v (zup v 116 4 x) := ⟨fun a g => p_up_a _ _ _ g, fun k g _ _ => p_up_n _ _ (Or.inr g)⟩
theorem bBM_f {L : List Nat} {v w : zV} (h : bBM L v) (e : fr2 v w) : bBM L w := ⟨h.1, (e.2 2 (by decide) (by decide) (by decide)).trans h.2.1, fun i hi => by rw [e.1 117 (by decide)]; exact h.2.2 i hi⟩
theorem mk_fr {v w : zV} (wa : ∀ a, a ≠ 116 → w a = v a) (wk : ∀ k, k ≠ 4 → w 116 k = v 116 k) : fr2 v w := ⟨wa, fun k g _ _ => wk k g⟩
theorem rdM_np {L : List Nat} {p : Nat} {v : zV} (h : rdM L (.inl p) v) : p ≤ L.length ∧ (p = L.length ∨ bBl L p = false) := by
  obtain ⟨h1, p0, h2, h3, h4, h5, h6⟩ := h
  rw [← h6]
  exact ⟨tSk_le L h2, tSk_at L h2⟩
theorem rdM_0 {L : List Nat} {p : Nat} {v : zV} (h : rdM L (.inl p) v) : v 116 5 = nI 0 := by
  obtain ⟨h1, p0, h2, h3, h4, h5, h6⟩ := h
  exact h4
theorem rdM_n {L : List Nat} {f : Nat × Nat} {v : zV} (h : rdM L (.inr f) v) : ¬ v 116 5 = 0 := by
  obtain ⟨h1, p0, h2, h3, h4, h5, h6, h7⟩ := h
  rw [h4]
  exact fun z => by have := (nI_is0 (by omega)).mp z; omega
theorem rdM_at {L : List Nat} {p : Nat} {v w : zV} (h : rdM L (.inl p) v) (e : fr2 v w) (e2 : w 116 5 = v 116 5) (e3 : w 116 6 = v 116 6) {q : Nat} (hq : q ≤ L.length) (h5 : w 116 4 = nI q) : rdM L (.inl (tSk L q)) w := by
  obtain ⟨h1, p0, -, -, h4, h6, -⟩ := h
  exact ⟨bBM_f h1 e, q, hq, h5, e2.trans h4, e3.trans h6, rfl⟩
theorem byteAt_M {L : List Nat} {v : zV} (h : bBM L v) {i : Nat} (hi : i < 2000) : fX10_byteAt 116 (nI i) v = some (bQt L i, v) := by
  have hL := h.1
  unfold fX10_byteAt bQt
  rw [h.2.1, rx_9, l117]
  by_cases q : i < L.length
  · rw [if_pos ((nI_lt' (by omega) (by omega)).mpr q), zix_nI (by omega) (by omega), nI_cl' (by omega), (h.2.2 i q).1, if_pos q]
  · rw [if_neg (fun z => q ((nI_lt' (by omega) (by omega)).mp z)), if_neg q]
    rfl
theorem p_blanks0 {L : List Nat} : ∀ (d n p : Nat) (v : zV), L.length - p = d → d < n → bBM L v → p ≤ L.length → v 116 4 = nI p → ∃ w, fX10_blanks_0 n 116 v = some w ∧ w 116 4 = nI (zfar (bBl L) d p) ∧ (∀ a, a ≠ 116 → w a = v a) ∧ ∀ k, k ≠ 4 → w 116 k = v 116 k := by
  intro d
  induction d with
  | zero =>
    intro n p v e hn h hp h5
    obtain ⟨n, rfl⟩ : ∃ k, n = k + 1 := ⟨n - 1, by omega⟩
    have hL := h.1
    refine ⟨v, ?_, h5, fun _ _ => rfl, fun _ _ => rfl⟩
    rw [fX10_blanks_0]
    dsimp only
    rw [h5, byteAt_M h (by omega), zbind_some, show bQt L p = -nI 1 from if_neg (by omega), if_neg (by decide)]
  | succ d ih =>
    intro n p v e hn h hp h5
    obtain ⟨n, rfl⟩ : ∃ k, n = k + 1 := ⟨n - 1, by omega⟩
    have hL := h.1
    have hpl : p < L.length := by omega
    have hb := h.2.2 p hpl
    rw [zfar]
    by_cases c : bA L p = 32
    · rw [if_pos (show bBl L p = true from decide_eq_true c)]
      obtain ⟨w, hw, w5, wa, wk⟩ := ih n (p + 1) (zup v 116 4 (nI (p + 1))) (by omega) (by omega) (bBM_f h (fr2_4 v _)) (by omega) (p_up_s _ _ _ _)
      refine ⟨w, ?_, w5, fun a g => (wa a g).trans (p_up_a _ _ _ g), fun k g => (wk k g).trans (p_up_n _ _ (Or.inr g))⟩
      rw [fX10_blanks_0]
      dsimp only
      rw [h5, byteAt_M h (by omega), zbind_some, show bQt L p = nI (bA L p) from if_pos hpl, c, if_pos (show nI 32 = 32 from rfl), zlet_eq, h5, show (nI p + 1 : Int32) = nI (p + 1) from nI_add _ 1, hw]
    · rw [if_neg (show ¬ bBl L p = true from fun z => c (of_decide_eq_true z))]
      refine ⟨v, ?_, h5, fun _ _ => rfl, fun _ _ => rfl⟩
      rw [fX10_blanks_0]
      dsimp only
      rw [h5, byteAt_M h (by omega), zbind_some, show bQt L p = nI (bA L p) from if_pos hpl, if_neg (show ¬ nI (bA L p) = 32 from fun z => c ((nI_eq (b := 32) (by omega) (by omega)).mp z))]
theorem p_blanks {L : List Nat} {τ : rdE} {v : zV} (h : rdM L τ v) : ∃ w, fX10_blanks 116 v = some w ∧ rdM L τ w ∧ exM τ w ∧ (∀ a, a ≠ 116 → w a = v a) ∧ ∀ k, k ≠ 4 → w 116 k = v 116 k := by
  obtain ⟨h1, p0, h2, h3, h4⟩ := h
  have hL := h1.1
  obtain ⟨w, hw, w5, wa, wk⟩ := p_blanks0 (L.length - p0) zFU p0 v rfl (by unfold zFU; omega) h1 h2 h3
  have hf : fr2 v w := mk_fr wa wk
  have hle := tSk_le L h2
  unfold fX10_blanks
  refine ⟨w, hw, ⟨bBM_f h1 hf, tSk L p0, hle, w5, ?_⟩, fun q hq => ?_, wa, wk⟩
  · cases τ with
    | inl p =>
      obtain ⟨g1, g2, g3⟩ := h4
      exact ⟨(wk 5 (by decide)).trans g1, (wk 6 (by decide)).trans g2, by rw [tSk_sk L h2, g3]⟩
    | inr f =>
      obtain ⟨g1, g2, g3, g4⟩ := h4
      exact ⟨(wk 5 (by decide)).trans g1, (wk 6 (by decide)).trans g2, g3, g4⟩
  · subst hq
    rw [w5]
    exact congrArg nI h4.2.2
theorem p_wrong {L : List Nat} {τ : rdE} {v : zV} (h : rdM L τ v) {k pl : Nat} (hk : 1 ≤ k ∧ k ≤ 4) {y : Int32} (hy : ∀ p, τ = .inl p → y = nI pl) : ∃ w, fX10_wrong 116 (nI k) y v = some w ∧ rdM L (tFl τ k pl) w ∧ fr2 v w := by
  cases τ with
  | inl p =>
    obtain ⟨h1, p0, h2, h3, h4, h5, h6⟩ := h
    have hf : fr2 v (zup (zup v 116 5 (nI k)) 116 6 y) := ⟨fun a g => by rw [p_up_a _ _ _ g, p_up_a _ _ _ g], fun j _ g1 g2 => by rw [p_up_n _ _ (Or.inr g2), p_up_n _ _ (Or.inr g1)]⟩
    refine ⟨_, ?_, ⟨bBM_f h1 hf, p0, h2, ?_, ?_, ?_, hk.1, hk.2⟩, hf⟩
    · unfold fX10_wrong
      rw [h4, if_pos (show nI 0 = 0 from rfl), zlet_eq, zlet_eq]
    · rw [p_up_n _ _ (Or.inr (by decide)), p_up_n _ _ (Or.inr (by decide))]; exact h3
    · rw [p_up_n _ _ (Or.inr (by decide)), p_up_s]
    · rw [p_up_s]; exact hy p rfl
  | inr f =>
    refine ⟨v, ?_, h, fr2_rf v⟩
    unfold fX10_wrong
    rw [if_neg (rdM_n h)]
theorem p_mTakesSign {L : List Nat} {τ : rdE} {v : zV} (h : rdM L τ v) {c : Nat} (hc : c < 256) : ∃ w, fX10_takesSign 116 (nI c) v = some (if (tTs L c τ).1 = true then 1 else 0, w) ∧ rdM L (tTs L c τ).2 w ∧ fr2 v w := by
  unfold fX10_takesSign
  cases τ with
  | inl p =>
    obtain ⟨w, hw, hR, hX, wa, wk⟩ := p_blanks h
    have hp := rdM_np hR
    have hL := hR.1.1
    rw [rdM_0 h, if_pos (show nI 0 = 0 from rfl), hw, zbindv_some, hX p rfl, byteAt_M hR.1 (by omega), zbind_some]
    by_cases q : p < L.length ∧ bA L p = c
    · have e : tTs L c (.inl p) = (true, .inl (tSk L (p + 1))) := if_pos q
      rw [e, if_pos ((bQt_is (fun z => (hR.1.2.2 p z).2) hc).mpr q), if_neg (show ¬ (1 : Int32) = 0 by decide), zlet_eq, hX p rfl, show (nI p + 1 : Int32) = nI (p + 1) from nI_add _ 1]
      exact ⟨_, rfl, rdM_at hR (fr2_4 w _) (p_up_n _ _ (Or.inr (by decide))) (p_up_n _ _ (Or.inr (by decide))) (by omega) (p_up_s _ _ _ _), fr2_tr (mk_fr wa wk) (fr2_4 w _)⟩
    · have e : tTs L c (.inl p) = (false, .inl p) := if_neg q
      rw [e, if_neg (fun z => q ((bQt_is (fun z => (hR.1.2.2 p z).2) hc).mp z)), if_pos rfl]
      exact ⟨w, rfl, hR, mk_fr wa wk⟩
  | inr f =>
    rw [if_neg (rdM_n h)]
    exact ⟨v, rfl, h, fr2_rf v⟩
theorem p_mSign {L : List Nat} {τ : rdE} {v : zV} (h : rdM L τ v) {c : Nat} (hc : c < 256) : ∃ w, fX10_sign 116 (nI c) v = some w ∧ rdM L (tSg L c τ) w ∧ fr2 v w := by
  unfold fX10_sign
  cases τ with
  | inl p =>
    obtain ⟨w, hw, hR, hX, wa, wk⟩ := p_blanks h
    have hp := rdM_np hR
    have hL := hR.1.1
    rw [rdM_0 h, if_pos (show nI 0 = 0 from rfl), hw, zbindv_some, hX p rfl, byteAt_M hR.1 (by omega), zbind_some]
    by_cases q : p < L.length ∧ bA L p = c
    · have e : tSg L c (.inl p) = .inl (tSk L (p + 1)) := if_pos q
      rw [e, if_pos ((bQt_is (fun z => (hR.1.2.2 p z).2) hc).mpr q), zlet_eq, hX p rfl, show (nI p + 1 : Int32) = nI (p + 1) from nI_add _ 1]
      exact ⟨_, rfl, rdM_at hR (fr2_4 w _) (p_up_n _ _ (Or.inr (by decide))) (p_up_n _ _ (Or.inr (by decide))) (by omega) (p_up_s _ _ _ _), fr2_tr (mk_fr wa wk) (fr2_4 w _)⟩
    · have e : tSg L c (.inl p) = .inr (1, p) := if_neg q
      rw [e, if_neg (fun z => q ((bQt_is (fun z => (hR.1.2.2 p z).2) hc).mp z))]
      obtain ⟨u, hu, uR, uf⟩ := p_wrong hR (k := 1) (pl := p) (by decide) (y := w 116 4) (fun p' hp' => by cases hp'; exact hX p rfl)
      refine ⟨u, ?_, uR, fr2_tr (mk_fr wa wk) uf⟩
      rw [show (1 : Int32) = nI 1 from rfl, hu, zbindv_some]
  | inr f =>
    rw [if_neg (rdM_n h)]
    exact ⟨v, rfl, h, fr2_rf v⟩
/-! numbers -/
theorem isDgM (x : Int32) (v : zV) : fX10_isDigit x v = fX8_isDigit x v := rfl
theorem isLtM (x : Int32) (v : zV) : fX10_isSmall x v = fX8_isLetter x v := rfl
theorem p_mNum44 {L : List Nat} (lo hi from' : Int32) : ∀ (d n p x : Nat) (v : zV), L.length - p = d → d < n → bBM L v → p ≤ L.length → v 116 4 = nI p → x ≤ 100000 → ∃ w, fX10_number_44 n 116 lo hi from' (nI x) v = fX10_number_106 116 lo hi from' (nI (tDig L d p x).2) w ∧ w 116 4 = nI (tDig L d p x).1 ∧ (∀ a, a ≠ 116 → w a = v a) ∧ ∀ k, k ≠ 4 → w 116 k = v 116 k := by
  intro d
  induction d with
  | zero =>
    intro n p x v e hn h hp h5 hx
    obtain ⟨n, rfl⟩ : ∃ k, n = k + 1 := ⟨n - 1, by omega⟩
    have hL := h.1
    refine ⟨v, ?_, h5, fun _ _ => rfl, fun _ _ => rfl⟩
    rw [fX10_number_44]
    dsimp only
    rw [h5, byteAt_M h (by omega), zbind_some, isDgM, isDg_at (fun q => (h.2.2 p q).2), zbind_some, if_neg (show ¬ (p < L.length ∧ bDg L p = true) from fun z => by omega), if_pos rfl]
    rfl
  | succ d ih =>
    intro n p x v e hn h hp h5 hx
    obtain ⟨n, rfl⟩ : ∃ k, n = k + 1 := ⟨n - 1, by omega⟩
    have hL := h.1
    have hpl : p < L.length := by omega
    have hb := (h.2.2 p hpl).2
    rw [tDig]
    by_cases c : bDg L p = true
    · have c2 := of_decide_eq_true c
      rw [if_pos c]
      obtain ⟨w, hw, w5, wa, wk⟩ := ih n (p + 1) (min (x * 10 + (bA L p - 48)) 100000) (zup v 116 4 (nI (p + 1))) (by omega) (by omega) (bBM_f h (fr2_4 v _)) (by omega) (p_up_s _ _ _ _) (Nat.min_le_right _ _)
      refine ⟨w, ?_, w5, fun a g => (wa a g).trans (p_up_a _ _ _ g), fun k g => (wk k g).trans (p_up_n _ _ (Or.inr g))⟩
      rw [fX10_number_44]
      dsimp only
      have hbp : bQt L p = nI (bA L p) := if_pos hpl
      rw [h5, byteAt_M h (by omega), zbind_some, isDgM, isDg_at (fun q => (h.2.2 p q).2), zbind_some, if_pos (show p < L.length ∧ bDg L p = true from ⟨hpl, c⟩), if_neg (show ¬ (1 : Int32) = 0 by decide), h5, byteAt_M h (by omega), zbind_some, hbp, zlet_eq, zlet_eq, h5, show (nI p + 1 : Int32) = nI (p + 1) from nI_add _ 1, show (10 * nI x : Int32) = nI (10 * x) from pk_mul 10 _, nI_add, show (nI (10 * x + bA L p) - 48 : Int32) = nI (10 * x + bA L p - 48) from nI_sub' (b := 48) (by omega)]
      by_cases g : 10 * x + bA L p - 48 ≤ 100000
      · rw [if_pos (show nI (10 * x + bA L p - 48) ≤ 100000 from leY (b := 100000) (by omega) (by omega) g), show 10 * x + bA L p - 48 = min (x * 10 + (bA L p - 48)) 100000 by omega, hw]
      · rw [if_neg (show ¬ nI (10 * x + bA L p - 48) ≤ 100000 from leN (b := 100000) (by omega) (by omega) g), show (100000 : Int32) = nI (min (x * 10 + (bA L p - 48)) 100000) by rw [show min (x * 10 + (bA L p - 48)) 100000 = 100000 by omega]; rfl, hw]
    · rw [if_neg c]
      refine ⟨v, ?_, h5, fun _ _ => rfl, fun _ _ => rfl⟩
      rw [fX10_number_44]
      dsimp only
      rw [h5, byteAt_M h (by omega), zbind_some, isDgM, isDg_at (fun q => (h.2.2 p q).2), zbind_some, if_neg (show ¬ (p < L.length ∧ bDg L p = true) from fun z => c z.2), if_pos rfl]
theorem p_num106F {L : List Nat} {f : Nat × Nat} {v : zV} (h : rdM L (.inr f) v) (lo hi y x : Int32) : fX10_number_106 116 lo hi y x v = some (0, v) := by
  unfold fX10_number_106
  rw [pa_in, p_within, zbind_some]
  by_cases c : lo ≤ x ∧ x ≤ hi
  · rw [if_pos c, if_neg (show ¬ (1 : Int32) = 0 by decide), if_neg (rdM_n h)]
  · have e : fX10_wrong 116 2 y v = some v := by
      unfold fX10_wrong
      rw [if_neg (rdM_n h)]
    rw [if_neg c, if_pos rfl, e, zbindv_some, if_neg (rdM_n h)]
theorem p_mNumber {L : List Nat} {τ : rdE} {v : zV} (h : rdM L τ v) {lo hi : Int32} {a b : Nat} (hbd : okBd lo hi a b) : ∃ w, fX10_number 116 lo hi v = some (nI (tNum L a b τ).1, w) ∧ rdM L (tNum L a b τ).2 w ∧ fr2 v w := by
  unfold fX10_number
  cases τ with
  | inl p =>
    obtain ⟨u, hu, hR, hX, wa, wk⟩ := p_blanks h
    have hp := rdM_np hR
    have hL := hR.1.1
    rw [rdM_0 h, if_pos (show nI 0 = 0 from rfl), hu, zbindv_some, hX p rfl, byteAt_M hR.1 (by omega), zbind_some, isDgM, isDg_at (fun q => (hR.1.2.2 p q).2), zbind_some]
    by_cases c : p < L.length ∧ bDg L p = true
    · obtain ⟨w, hw, w5, wa2, wk2⟩ := p_mNum44 lo hi (nI p) (L.length - p) zFU p 0 u rfl (by unfold zFU; omega) hR.1 hp.1 (hX p rfl) (by decide)
      have hbd2 := tDig_bd L (L.length - p) p 0 (by decide)
      have hle := tDig_le L hp.1
      have hwR : rdM L (.inl (tSk L (tDig L (L.length - p) p 0).1)) w := rdM_at hR (mk_fr wa2 wk2) (wk2 5 (by decide)) (wk2 6 (by decide)) hle w5
      have hff := fr2_tr (mk_fr wa wk) (mk_fr wa2 wk2)
      rw [if_pos c, if_neg (show ¬ (1 : Int32) = 0 by decide), show fX10_number_44 zFU 116 lo hi (nI p) 0 u = fX10_number_44 zFU 116 lo hi (nI p) (nI 0) u from rfl, hw]
      unfold fX10_number_106 tNum
      dsimp only
      rw [if_pos c, pa_in, p_within, zbind_some]
      by_cases g : a ≤ (tDig L (L.length - p) p 0).2 ∧ (tDig L (L.length - p) p 0).2 < b
      · rw [if_pos ((hbd _ hbd2).mpr g), if_pos g, if_neg (show ¬ (1 : Int32) = 0 by decide), rdM_0 hwR, if_pos (show nI 0 = 0 from rfl)]
        exact ⟨w, rfl, hwR, hff⟩
      · obtain ⟨t, ht, tR, tf⟩ := p_wrong hwR (k := 2) (pl := p) (by decide) (y := nI p) (fun _ _ => rfl)
        rw [if_neg (fun z => g ((hbd _ hbd2).mp z)), if_neg g, if_pos rfl, show (2 : Int32) = nI 2 from rfl, ht, zbindv_some, if_neg (rdM_n tR)]
        exact ⟨t, rfl, tR, fr2_tr hff tf⟩
    · obtain ⟨t, ht, tR, tf⟩ := p_wrong hR (k := 1) (pl := p) (by decide) (y := nI p) (fun _ _ => rfl)
      have e : tNum L a b (.inl p) = (0, .inr (1, p)) := if_neg c
      have t4 : ∃ p', p' ≤ L.length ∧ t 116 4 = nI p' := by
        obtain ⟨-, p', g1, g2, -⟩ := tR
        exact ⟨p', g1, g2⟩
      obtain ⟨p', g1, g2⟩ := t4
      obtain ⟨w, hw, w5, wa2, wk2⟩ := p_mNum44 lo hi (nI p) (L.length - p') zFU p' 0 t rfl (by unfold zFU; omega) tR.1 g1 g2 (by decide)
      have wR : rdM L (.inr (1, p)) w := by
        obtain ⟨k1, p0, k2, k3, k4, k5, k6, k7⟩ := tR
        exact ⟨bBM_f k1 (mk_fr wa2 wk2), _, tDig_le L g1, w5, (wk2 5 (by decide)).trans k4, (wk2 6 (by decide)).trans k5, k6, k7⟩
      rw [if_neg c, if_pos rfl, hX p rfl, show (1 : Int32) = nI 1 from rfl, ht, zbindv_some, show fX10_number_44 zFU 116 lo hi (nI p) 0 t = fX10_number_44 zFU 116 lo hi (nI p) (nI 0) t from rfl, hw, p_num106F wR, e]
      exact ⟨w, rfl, wR, fr2_tr (mk_fr wa wk) (fr2_tr tf (mk_fr wa2 wk2))⟩
  | inr f =>
    rw [if_neg (rdM_n h)]
    exact ⟨v, rfl, h, fr2_rf v⟩
end
