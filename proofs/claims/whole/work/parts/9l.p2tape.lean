/-! READING A TEXT: what the readings are, and those of the class's tape -/
section
/-- where a reading stands: at a place where no blank is, or at its first fault (kind, place) -/
abbrev rdE : Type := Nat ⊕ (Nat × Nat)
def bA (L : List Nat) (i : Nat) : Nat := L.getD i 0
def bQt (L : List Nat) (i : Nat) : Int32 := if i < L.length then nI (bA L i) else -nI 1
def bBl (L : List Nat) (i : Nat) : Bool := decide (bA L i = 32)
def bDg (L : List Nat) (i : Nat) : Bool := decide (48 ≤ bA L i ∧ bA L i ≤ 57)
def bLt (L : List Nat) (i : Nat) : Bool := decide (97 ≤ bA L i ∧ bA L i ≤ 122)
def tSk (L : List Nat) (p : Nat) : Nat := zfar (bBl L) (L.length - p) p
def tWe (L : List Nat) (p : Nat) : Nat := zfar (bLt L) (L.length - p) p
def tDig (L : List Nat) : Nat → Nat → Nat → Nat × Nat
  | 0, p, x => (p, x)
  | d + 1, p, x => if bDg L p = true then tDig L d (p + 1) (min (x * 10 + (bA L p - 48)) 100000) else (p, x)
def tIs (L : List Nat) (p : Nat) (W : List Nat) : Bool := decide (tWe L p = p + W.length) && zall (fun i => decide (bA L (p + i) = bA W i)) W.length 0
def tLk (L : List Nat) (τ : rdE) : Int32 := match τ with
  | .inl p => bQt L p
  | .inr _ => -nI 1
def tDg (L : List Nat) (τ : rdE) : Bool := match τ with
  | .inl p => decide (p < L.length ∧ bDg L p = true)
  | .inr _ => false
def tFl (τ : rdE) (k pl : Nat) : rdE := match τ with
  | .inl _ => .inr (k, pl)
  | .inr f => .inr f
def tNum (L : List Nat) (a b : Nat) (τ : rdE) : Nat × rdE := match τ with
  | .inl p => if p < L.length ∧ bDg L p = true then (if a ≤ (tDig L (L.length - p) p 0).2 ∧ (tDig L (L.length - p) p 0).2 < b then ((tDig L (L.length - p) p 0).2, .inl (tSk L (tDig L (L.length - p) p 0).1)) else (0, .inr (2, p))) else (0, .inr (1, p))
  | .inr f => (0, .inr f)
def tTs (L : List Nat) (c : Nat) (τ : rdE) : Bool × rdE := match τ with
  | .inl p => if p < L.length ∧ bA L p = c then (true, .inl (tSk L (p + 1))) else (false, .inl p)
  | .inr f => (false, .inr f)
def tSg (L : List Nat) (c : Nat) (τ : rdE) : rdE := match τ with
  | .inl p => if p < L.length ∧ bA L p = c then .inl (tSk L (p + 1)) else .inr (1, p)
  | .inr f => .inr f
def tTk (L : List Nat) (W : List Nat) (τ : rdE) : Bool × rdE := match τ with
  | .inl p => if tIs L p W = true then (true, .inl (tSk L (p + W.length))) else (false, .inl p)
  | .inr f => (false, .inr f)
/-! runs -/
theorem zfar_ge (p : Nat → Bool) : ∀ d j, j ≤ zfar p d j := by
  intro d
  induction d with
  | zero => intro j; exact Nat.le_refl _
  | succ d ih =>
    intro j
    rw [zfar]
    split
    · have := ih (j + 1); omega
    · omega
theorem zfar_in (p : Nat → Bool) : ∀ d j k, j ≤ k → k < zfar p d j → p k = true := by
  intro d
  induction d with
  | zero => intro j k h1 h2; rw [zfar] at h2; omega
  | succ d ih =>
    intro j k h1 h2
    rw [zfar] at h2
    by_cases h : p j = true
    · rw [if_pos h] at h2
      by_cases e : k = j
      · rw [e]; exact h
      · exact ih (j + 1) k (by omega) h2
    · rw [if_neg h] at h2
      omega
theorem zfar_out (p : Nat → Bool) : ∀ d j, zfar p d j < j + d → p (zfar p d j) = false := by
  intro d
  induction d with
  | zero => intro j h; rw [zfar] at h; omega
  | succ d ih =>
    intro j h
    rw [zfar] at h ⊢
    by_cases c : p j = true
    · rw [if_pos c] at h ⊢
      exact ih (j + 1) (by omega)
    · rw [if_neg c]
      exact Bool.eq_false_iff.mpr c
theorem tSk_ge (L : List Nat) (p : Nat) : p ≤ tSk L p := zfar_ge _ _ _
theorem tSk_le (L : List Nat) {p : Nat} (h : p ≤ L.length) : tSk L p ≤ L.length := by
  have := zfar_le (bBl L) (L.length - p) p
  unfold tSk
  omega
theorem tSk_at (L : List Nat) {p : Nat} (h : p ≤ L.length) : tSk L p = L.length ∨ bBl L (tSk L p) = false := by
  by_cases c : tSk L p < L.length
  · exact Or.inr (zfar_out _ _ _ (by unfold tSk at c; omega))
  · exact Or.inl (by have := tSk_le L h; omega)
theorem tSk_stop (L : List Nat) {p : Nat} (h : p = L.length ∨ bBl L p = false) : tSk L p = p := by
  unfold tSk
  rcases h with h | h
  · rw [h, Nat.sub_self, zfar]
  · cases L.length - p with
    | zero => rfl
    | succ d => rw [zfar, if_neg (by rw [h]; decide)]
theorem tSk_sk (L : List Nat) {p : Nat} (h : p ≤ L.length) : tSk L (tSk L p) = tSk L p := tSk_stop L (tSk_at L h)
theorem tDig_ge (L : List Nat) : ∀ d p x, p ≤ (tDig L d p x).1 ∧ (tDig L d p x).1 ≤ p + d := by
  intro d
  induction d with
  | zero => intro p x; exact ⟨Nat.le_refl _, Nat.le_refl _⟩
  | succ d ih =>
    intro p x
    rw [tDig]
    split
    · have := ih (p + 1) (min (x * 10 + (bA L p - 48)) 100000)
      omega
    · exact ⟨Nat.le_refl _, by omega⟩
theorem tDig_gt (L : List Nat) {p : Nat} (h : p < L.length) (hd : bDg L p = true) : p < (tDig L (L.length - p) p 0).1 := by
  obtain ⟨d, e⟩ : ∃ d, L.length - p = d + 1 := ⟨L.length - p - 1, by omega⟩
  rw [e, tDig, if_pos hd]
  have := (tDig_ge L d (p + 1) (min (0 * 10 + (bA L p - 48)) 100000)).1
  omega
theorem tDig_le (L : List Nat) {p : Nat} (h : p ≤ L.length) : (tDig L (L.length - p) p 0).1 ≤ L.length := by
  have := (tDig_ge L (L.length - p) p 0).2
  omega
/-! THE CLASS -/
def bBC (L : List Nat) (v : zV) : Prop := L.length ≤ 600 ∧ v 1 4 = nI L.length ∧ ∀ i, i < L.length → v 2 i = sgB (bA L i) ∧ bA L i < 256
def rdC (L : List Nat) (τ : rdE) (v : zV) : Prop := bBC L v ∧ ∃ p0, p0 ≤ L.length ∧ v 1 5 = nI p0 ∧ match τ with
  | .inl p => v 1 2 = nI 0 ∧ v 1 3 = -nI 1 ∧ tSk L p0 = p
  | .inr f => v 1 2 = nI f.1 ∧ v 1 3 = nI f.2 ∧ 1 ≤ f.1 ∧ f.1 ≤ 4
/-- where the tape stands, exactly -/
def exC (τ : rdE) (v : zV) : Prop := ∀ p, τ = .inl p → v 1 5 = nI p
def fr1 (v w : zV) : Prop := (∀ a, a ≠ 1 → w a = v a) ∧ ∀ k, k ≠ 2 → k ≠ 3 → k ≠ 5 → w 1 k = v 1 k
theorem fr1_rf (v : zV) : fr1 v v := ⟨fun _ _ => rfl, fun _ _ _ _ => rfl⟩
theorem fr1_tr {v w u : zV} (h1 : fr1 v w) (h2 : fr1 w u) : fr1 v u := ⟨fun a g => (h2.1 a g).trans (h1.1 a g), fun k g1 g2 g3 => (h2.2 k g1 g2 g3).trans (h1.2 k g1 g2 g3)⟩
theorem fr1_5 (v : zV) (x : Int32) : fr1 v (zup v 1 5 x) := ⟨fun a g => p_up_a _ _ _ g, fun k _ _ g => p_up_n _ _ (Or.inr g)⟩
theorem bBC_f {L : List Nat} {v w : zV} (h : bBC L v) (e : fr1 v w) : bBC L w := ⟨h.1, (e.2 4 (by decide) (by decide) (by decide)).trans h.2.1, fun i hi => by rw [e.1 2 (by decide)]; exact h.2.2 i hi⟩
theorem rdC_p {L : List Nat} {τ : rdE} {v : zV} (h : rdC L τ v) : (∃ k, k ≤ 4 ∧ v 1 2 = nI k ∧ (τ.isLeft = true ↔ k = 0)) := by
  obtain ⟨-, p0, -, -, h4⟩ := h
  cases τ with
  | inl p => exact ⟨0, by decide, h4.1, ⟨fun _ => rfl, fun _ => rfl⟩⟩
  | inr f => exact ⟨f.1, h4.2.2.2, h4.1, ⟨fun q => (by cases q), fun q => by have := h4.2.2.1; omega⟩⟩
/-- moved on, over blanks or not, ahead of a fault -/
theorem rdC_at {L : List Nat} {p : Nat} {v w : zV} (h : rdC L (.inl p) v) (e : fr1 v w) (e2 : w 1 2 = v 1 2) (e3 : w 1 3 = v 1 3) {q : Nat} (hq : q ≤ L.length) (h5 : w 1 5 = nI q) : rdC L (.inl (tSk L q)) w := by
  obtain ⟨h1, p0, -, -, h4, h6, -⟩ := h
  exact ⟨bBC_f h1 e, q, hq, h5, e2.trans h4, e3.trans h6, rfl⟩
theorem rdC_np {L : List Nat} {p : Nat} {v : zV} (h : rdC L (.inl p) v) : p ≤ L.length ∧ (p = L.length ∨ bBl L p = false) := by
  obtain ⟨h1, p0, h2, h3, h4, h5, h6⟩ := h
  rw [← h6]
  exact ⟨tSk_le L h2, tSk_at L h2⟩
theorem sgB_32 : ∀ b, b < 256 → ((sgB b = 32) ↔ b = 32) ∧ (sgB b &&& 255 = nI b) := by decide +kernel
theorem p_look57 {L : List Nat} {v : zV} (h : bBC L v) {p k : Nat} (hp : p ≤ L.length) (h5 : v 1 5 = nI p) (hk : k ≤ 4) (h2 : v 1 2 = nI k) : fX8_look_57 1 v = some (if k = 0 then bQt L p else -nI 1, v) := by
  have hL := h.1
  unfold fX8_look_57
  by_cases c : k = 0
  · rw [h2, c, if_pos (show nI 0 = 0 from rfl), if_pos rfl, h5, if_neg (nI_pos (by omega)), h.2.1, rf_1_0, l2]
    unfold bQt
    by_cases q : p < L.length
    · rw [if_neg (leN (by omega) (by omega) (by omega)), if_neg (show ¬ Int32.ofNat 600 ≤ nI p from leN (a := 600) (by omega) (by omega) (by omega)), zix_nI (by omega) (by omega), nI_cl' (by omega), (h.2.2 p q).1, (sgB_32 _ (h.2.2 p q).2).2, if_pos q]
    · rw [if_pos (leY (by omega) (by omega) (by omega)), if_neg q]
      rfl
  · rw [h2, if_neg (show ¬ nI k = 0 from fun z => c ((nI_is0 (by omega)).mp z)), if_neg c]
    rfl
theorem p_look0 {L : List Nat} : ∀ (d n p : Nat) (v : zV), L.length - p = d → d < n → bBC L v → p ≤ L.length → v 1 5 = nI p → ∃ w, fX8_look_0 n 1 v = fX8_look_57 1 w ∧ w 1 5 = nI (zfar (bBl L) d p) ∧ (∀ a, a ≠ 1 → w a = v a) ∧ ∀ k, k ≠ 5 → w 1 k = v 1 k := by
  intro d
  induction d with
  | zero =>
    intro n p v e hn h hp h5
    obtain ⟨n, rfl⟩ : ∃ k, n = k + 1 := ⟨n - 1, by omega⟩
    have hL := h.1
    refine ⟨v, ?_, h5, fun _ _ => rfl, fun _ _ => rfl⟩
    rw [fX8_look_0]
    dsimp only
    rw [h5, if_neg (nI_pos (by omega)), h.2.1, if_pos (leY (by omega) (by omega) (by omega))]
  | succ d ih =>
    intro n p v e hn h hp h5
    obtain ⟨n, rfl⟩ : ∃ k, n = k + 1 := ⟨n - 1, by omega⟩
    have hL := h.1
    have hpl : p < L.length := by omega
    have hb := h.2.2 p hpl
    have hstep : fX8_look_0 (n + 1) 1 v = if sgB (bA L p) = 32 then fX8_look_0 n 1 (zup v 1 5 (nI (p + 1))) else fX8_look_57 1 v := by
      rw [fX8_look_0]
      dsimp only
      rw [h5, if_neg (nI_pos (by omega)), h.2.1, if_neg (leN (by omega) (by omega) (by omega)), rf_1_0, l2, if_neg (show ¬ Int32.ofNat 600 ≤ nI p from leN (a := 600) (by omega) (by omega) (by omega)), zix_nI (by omega) (by omega), nI_cl' (by omega), hb.1, zlet_eq, show (nI p + 1 : Int32) = nI (p + 1) from nI_add _ 1]
    rw [zfar]
    by_cases c : bA L p = 32
    · rw [if_pos (show bBl L p = true from decide_eq_true c)]
      obtain ⟨w, hw, w5, wa, wk⟩ := ih n (p + 1) (zup v 1 5 (nI (p + 1))) (by omega) (by omega) (bBC_f h (fr1_5 v _)) (by omega) (p_up_s _ _ _ _)
      refine ⟨w, ?_, w5, fun a g => (wa a g).trans (p_up_a _ _ _ g), fun k g => (wk k g).trans (p_up_n _ _ (Or.inr g))⟩
      rw [hstep, if_pos ((sgB_32 _ hb.2).1.mpr c), hw]
    · rw [if_neg (show ¬ bBl L p = true from fun z => c (of_decide_eq_true z))]
      refine ⟨v, ?_, h5, fun _ _ => rfl, fun _ _ => rfl⟩
      rw [hstep, if_neg (fun z => c ((sgB_32 _ hb.2).1.mp z))]
theorem p_look {L : List Nat} {τ : rdE} {v : zV} (h : rdC L τ v) : ∃ w, fX8_look 1 v = some (tLk L τ, w) ∧ rdC L τ w ∧ exC τ w ∧ (∀ a, a ≠ 1 → w a = v a) ∧ ∀ k, k ≠ 5 → w 1 k = v 1 k := by
  obtain ⟨k, hk4, hk2, hk0⟩ := rdC_p h
  obtain ⟨h1, p0, h2, h3, h4⟩ := h
  have hL := h1.1
  obtain ⟨w, hw, w5, wa, wk⟩ := p_look0 (L.length - p0) zFU p0 v rfl (by unfold zFU; omega) h1 h2 h3
  have hf : fr1 v w := ⟨wa, fun k _ _ g => wk k g⟩
  have hle := tSk_le L h2
  have h57 := p_look57 (bBC_f h1 hf) (p := tSk L p0) (k := k) hle w5 hk4 ((wk 2 (by decide)).trans hk2)
  unfold fX8_look
  rw [hw, h57]
  cases τ with
  | inl p =>
    obtain ⟨g1, g2, g3⟩ := h4
    refine ⟨w, ?_, ⟨bBC_f h1 hf, tSk L p0, hle, w5, (wk 2 (by decide)).trans g1, (wk 3 (by decide)).trans g2, by rw [tSk_sk L h2, g3]⟩, fun q hq => ?_, wa, wk⟩
    · rw [if_pos (hk0.mp rfl), g3]
      rfl
    · cases hq
      rw [w5]
      exact congrArg nI g3
  | inr f =>
    obtain ⟨g1, g2, g3, g4⟩ := h4
    refine ⟨w, ?_, ⟨bBC_f h1 hf, tSk L p0, hle, w5, (wk 2 (by decide)).trans g1, (wk 3 (by decide)).trans g2, g3, g4⟩, fun q hq => (by cases hq), wa, wk⟩
    rw [if_neg (fun z => by have := hk0.mpr z; cases this)]
    rfl
theorem lk_fr {v w : zV} (wa : ∀ a, a ≠ 1 → w a = v a) (wk : ∀ k, k ≠ 5 → w 1 k = v 1 k) : fr1 v w := ⟨wa, fun k _ _ g => wk k g⟩
theorem p_lookAt {L : List Nat} {τ : rdE} {v : zV} (h : rdC L τ v) : ∃ x w, fX8_lookAt 1 v = some (x, w) ∧ (∀ p, τ = .inl p → x = nI p) ∧ rdC L τ w ∧ exC τ w ∧ fr1 v w := by
  obtain ⟨w, hw, hR, hX, wa, wk⟩ := p_look h
  refine ⟨w 1 5, w, ?_, hX, hR, hX, lk_fr wa wk⟩
  unfold fX8_lookAt
  rw [hw, zbind_some]
/-- the first fault stays -/
theorem p_fail {L : List Nat} {τ : rdE} {v : zV} (h : rdC L τ v) {k pl : Nat} (hk : 1 ≤ k ∧ k ≤ 4) {y : Int32} (hy : ∀ p, τ = .inl p → y = nI pl) : ∃ w, fX8_fail 1 (nI k) y v = some w ∧ rdC L (tFl τ k pl) w ∧ fr1 v w := by
  cases τ with
  | inl p =>
    obtain ⟨h1, p0, h2, h3, h4, h5, h6⟩ := h
    have hf : fr1 v (zup (zup v 1 2 (nI k)) 1 3 y) := ⟨fun a g => by rw [p_up_a _ _ _ g, p_up_a _ _ _ g], fun j g1 g2 _ => by rw [p_up_n _ _ (Or.inr g2), p_up_n _ _ (Or.inr g1)]⟩
    refine ⟨_, ?_, ⟨bBC_f h1 hf, p0, h2, ?_, ?_, ?_, hk.1, hk.2⟩, hf⟩
    · unfold fX8_fail
      rw [h4, if_pos (show nI 0 = 0 from rfl), zlet_eq, zlet_eq]
    · rw [p_up_n _ _ (Or.inr (by decide)), p_up_n _ _ (Or.inr (by decide))]; exact h3
    · rw [p_up_n _ _ (Or.inr (by decide)), p_up_s]
    · rw [p_up_s]; exact hy p rfl
  | inr f =>
    refine ⟨v, ?_, h, fr1_rf v⟩
    obtain ⟨h1, p0, h2, h3, h4, h5, h6, h7⟩ := h
    unfold fX8_fail
    rw [h4, if_neg (show ¬ nI f.1 = 0 from fun z => by have := (nI_is0 (by omega)).mp z; omega)]
theorem p_misfit {L : List Nat} {τ : rdE} {v : zV} (h : rdC L τ v) {pl : Nat} (hx : exC τ v) (hpl : ∀ p, τ = .inl p → p = pl) : ∃ w, fX8_misfit 1 v = some w ∧ rdC L (tFl τ 1 pl) w ∧ fr1 v w := by
  obtain ⟨w, hw, hR, hf⟩ := p_fail h (k := 1) (pl := pl) (by decide) (y := v 1 5) (fun p hp => by rw [hx p hp, hpl p hp])
  refine ⟨w, ?_, hR, hf⟩
  unfold fX8_misfit
  rw [show (1 : Int32) = nI 1 from rfl, hw, zbindv_some]
theorem bQt_is {L : List Nat} {p c : Nat} (hb : p < L.length → bA L p < 256) (hc : c < 256) : bQt L p = nI c ↔ p < L.length ∧ bA L p = c := by
  unfold bQt
  by_cases q : p < L.length
  · rw [if_pos q, nI_eq' (by have := hb q; omega) (by omega)]
    exact ⟨fun z => ⟨q, z⟩, fun z => z.2⟩
  · rw [if_neg q]
    refine ⟨fun z => ?_, fun z => absurd z.1 q⟩
    have := (ng_eq2 (a := c) (k := 1) (by omega) (by decide) (by decide))
    rw [this] at z
    exact z.elim
theorem tLk_is {L : List Nat} {p c : Nat} {v : zV} (h : bBC L v) (hc : c < 256) : tLk L (.inl p) = nI c ↔ p < L.length ∧ bA L p = c := bQt_is (fun q => (h.2.2 p q).2) hc
theorem tLk_no {L : List Nat} {f : Nat × Nat} {c : Nat} (hc : c < 256) : ¬ tLk L (.inr f) = nI c := fun z => by
  have := (ng_eq2 (a := c) (k := 1) (by omega) (by decide) (by decide))
  change -nI 1 = nI c at z
  rw [this] at z
  exact z
theorem p_takesSign {L : List Nat} {τ : rdE} {v : zV} (h : rdC L τ v) {c : Nat} (hc : c < 256) : ∃ w, fX8_takesSign 1 (nI c) v = some (if (tTs L c τ).1 = true then 1 else 0, w) ∧ rdC L (tTs L c τ).2 w ∧ fr1 v w := by
  obtain ⟨w, hw, hR, hX, wa, wk⟩ := p_look h
  unfold fX8_takesSign
  rw [hw, zbind_some]
  cases τ with
  | inl p =>
    have hp := rdC_np hR
    by_cases q : p < L.length ∧ bA L p = c
    · have e : tTs L c (.inl p) = (true, .inl (tSk L (p + 1))) := if_pos q
      rw [e, if_pos ((tLk_is hR.1 hc).mpr q), zlet_eq, hX p rfl, show (nI p + 1 : Int32) = nI (p + 1) from nI_add _ 1]
      exact ⟨_, rfl, rdC_at hR (fr1_5 w _) (p_up_n _ _ (Or.inr (by decide))) (p_up_n _ _ (Or.inr (by decide))) (by omega) (p_up_s _ _ _ _), fr1_tr (lk_fr wa wk) (fr1_5 w _)⟩
    · have e : tTs L c (.inl p) = (false, .inl p) := if_neg q
      rw [e, if_neg (fun z => q ((tLk_is hR.1 hc).mp z))]
      exact ⟨w, rfl, hR, lk_fr wa wk⟩
  | inr f =>
    rw [if_neg (tLk_no hc)]
    exact ⟨w, rfl, hR, lk_fr wa wk⟩
theorem p_sign {L : List Nat} {τ : rdE} {v : zV} (h : rdC L τ v) {c : Nat} (hc : c < 256) : ∃ w, fX8_sign 1 (nI c) v = some w ∧ rdC L (tSg L c τ) w ∧ fr1 v w := by
  obtain ⟨w, hw, hR, hX, wa, wk⟩ := p_look h
  have hfl := lk_fr wa wk
  unfold fX8_sign
  rw [hw, zbind_some]
  cases τ with
  | inl p =>
    have hp := rdC_np hR
    by_cases q : p < L.length ∧ bA L p = c
    · have e : tSg L c (.inl p) = .inl (tSk L (p + 1)) := if_pos q
      rw [e, if_pos ((tLk_is hR.1 hc).mpr q), zlet_eq, hX p rfl, show (nI p + 1 : Int32) = nI (p + 1) from nI_add _ 1]
      exact ⟨_, rfl, rdC_at hR (fr1_5 w _) (p_up_n _ _ (Or.inr (by decide))) (p_up_n _ _ (Or.inr (by decide))) (by omega) (p_up_s _ _ _ _), fr1_tr hfl (fr1_5 w _)⟩
    · have e : tSg L c (.inl p) = .inr (1, p) := if_neg q
      rw [e, if_neg (fun z => q ((tLk_is hR.1 hc).mp z))]
      obtain ⟨u, hu, uR, uf⟩ := p_fail hR (k := 1) (pl := p) (by decide) (y := w 1 5) (fun p' hp' => by cases hp'; exact hX p rfl)
      refine ⟨u, ?_, uR, fr1_tr hfl uf⟩
      rw [show (1 : Int32) = nI 1 from rfl, hu, zbindv_some]
  | inr f =>
    rw [if_neg (tLk_no hc)]
    obtain ⟨u, hu, uR, uf⟩ := p_fail hR (k := 1) (pl := 0) (by decide) (y := w 1 5) (fun p' hp' => by cases hp')
    refine ⟨u, ?_, uR, fr1_tr hfl uf⟩
    rw [show (1 : Int32) = nI 1 from rfl, hu, zbindv_some]
/-! numbers -/
theorem byteAt_C {L : List Nat} {v : zV} (h : bBC L v) (h2 : v 1 2 = nI 0) {i : Nat} (hi : i < 2000) : fX8_byteAt 1 (nI i) v = some (bQt L i, v) := by
  have hL := h.1
  unfold fX8_byteAt bQt
  rw [h2, if_pos (show nI 0 = 0 from rfl), if_neg (nI_pos (by omega)), h.2.1, rf_1_0, l2]
  by_cases q : i < L.length
  · rw [if_neg (leN (by omega) (by omega) (by omega)), if_neg (show ¬ Int32.ofNat 600 ≤ nI i from leN (a := 600) (by omega) (by omega) (by omega)), zix_nI (by omega) (by omega), nI_cl' (by omega), (h.2.2 i q).1, (sgB_32 _ (h.2.2 i q).2).2, if_pos q]
  · rw [if_pos (leY (by omega) (by omega) (by omega)), if_neg q]
    rfl
theorem byteAt_F {L : List Nat} {f : Nat × Nat} {v : zV} (h : rdC L (.inr f) v) (x : Int32) : fX8_byteAt 1 x v = some (-nI 1, v) := by
  obtain ⟨h1, p0, h2, h3, h4, h5, h6, h7⟩ := h
  unfold fX8_byteAt
  rw [h4, if_neg (show ¬ nI f.1 = 0 from fun z => by have := (nI_is0 (by omega)).mp z; omega)]
  rfl
theorem isDg_at {L : List Nat} {i : Nat} (hb : i < L.length → bA L i < 256) (v : zV) : fX8_isDigit (bQt L i) v = some (if i < L.length ∧ bDg L i = true then 1 else 0, v) := by
  unfold fX8_isDigit bQt
  by_cases q : i < L.length
  · rw [if_pos q]
    have := hb q
    by_cases c1 : bA L i < 48
    · rw [if_pos (show nI (bA L i) < (48 : Int32) from (nI_lt' (b := 48) (by omega) (by omega)).mpr c1), if_neg (fun z => by have := of_decide_eq_true z.2; omega)]
    · rw [if_neg (show ¬ nI (bA L i) < (48 : Int32) from fun z => c1 ((nI_lt' (b := 48) (by omega) (by omega)).mp z))]
      by_cases c2 : 57 < bA L i
      · rw [if_pos (show (57 : Int32) < nI (bA L i) from (nI_lt' (a := 57) (by omega) (by omega)).mpr c2), if_neg (fun z => by have := of_decide_eq_true z.2; omega)]
      · rw [if_neg (show ¬ (57 : Int32) < nI (bA L i) from fun z => c2 ((nI_lt' (a := 57) (by omega) (by omega)).mp z)), if_pos ⟨q, decide_eq_true (by omega)⟩]
  · rw [if_neg q, if_pos (show -nI 1 < (48 : Int32) by decide), if_neg (fun z => q z.1)]
theorem isDg_no (v : zV) : fX8_isDigit (-nI 1) v = some (0, v) := by
  unfold fX8_isDigit
  rw [if_pos (show -nI 1 < (48 : Int32) by decide)]
theorem p_looksAtDigit {L : List Nat} {τ : rdE} {v : zV} (h : rdC L τ v) : ∃ w, fX8_looksAtDigit 1 v = some (if tDg L τ = true then 1 else 0, w) ∧ rdC L τ w ∧ exC τ w ∧ fr1 v w := by
  obtain ⟨w, hw, hR, hX, wa, wk⟩ := p_look h
  refine ⟨w, ?_, hR, hX, lk_fr wa wk⟩
  unfold fX8_looksAtDigit
  rw [hw, zbind_some]
  cases τ with
  | inl p =>
    rw [show tLk L (.inl p) = bQt L p from rfl, isDg_at (fun q => (hR.1.2.2 p q).2), zbind_some]
    unfold zbl tDg
    rw [if_pos (by split <;> decide)]
    by_cases q : p < L.length ∧ bDg L p = true
    · rw [if_pos q, if_pos (decide_eq_true q)]
    · rw [if_neg q, if_neg (fun z => q (of_decide_eq_true z))]
  | inr f =>
    rw [show tLk L (.inr f) = -nI 1 from rfl, isDg_no, zbind_some]
    rfl
/-- the bounds of a number, as ints -/
def okBd (lo hi : Int32) (a b : Nat) : Prop := ∀ x, x ≤ 100000 → ((lo ≤ nI x ∧ nI x ≤ hi) ↔ (a ≤ x ∧ x < b))
theorem okBd_l {a b : Nat} (ha : a < 100000) (hb : b < 100000) : okBd (nI a) (nI b) a (b + 1) := fun x hx => by
  rw [nI_le' (by omega) (by omega), nI_le' (by omega) (by omega)]
  omega
theorem okBd_n {b : Nat} (hb : b < 100000) : okBd 0 (nI b - 1) 0 b := fun x hx => by
  rw [show ((0 : Int32) ≤ nI x) = (0 ≤ x) from nI_le' (a := 0) (by omega) (by omega)]
  cases b with
  | zero =>
    have : ¬ nI x ≤ nI 0 - 1 := fun z => by
      have e := (ng_le2 (a := x) (k := 1) (by omega) (by decide) (by decide))
      have z2 : nI x ≤ -nI 1 := z
      rw [e] at z2
      exact z2
    exact ⟨fun z => absurd z.2 this, fun z => by omega⟩
  | succ b =>
    rw [show nI (b + 1) - 1 = nI b from nI_sub' (b := 1) (by omega), nI_le' (by omega) (by omega)]
    omega
theorem tDig_bd (L : List Nat) : ∀ d p x, x ≤ 100000 → (tDig L d p x).2 ≤ 100000 := by
  intro d
  induction d with
  | zero => intro p x h; exact h
  | succ d ih =>
    intro p x h
    rw [tDig]
    split
    · exact ih _ _ (Nat.min_le_right _ _)
    · exact h
theorem p_num24 {L : List Nat} (lo hi from' : Int32) : ∀ (d n j p x : Nat) (v : zV), L.length - p = d → j + d ≤ 600 → d < n → bBC L v → v 1 2 = nI 0 → p ≤ L.length → v 1 5 = nI p → x ≤ 100000 → ∃ w, fX8_number_24 n 1 lo hi from' (nI x) (nI j) v = fX8_number_86 1 lo hi from' (nI (tDig L d p x).2) w ∧ w 1 5 = nI (tDig L d p x).1 ∧ (∀ a, a ≠ 1 → w a = v a) ∧ ∀ k, k ≠ 5 → w 1 k = v 1 k := by
  intro d
  induction d with
  | zero =>
    intro n j p x v e hj hn h h2 hp h5 hx
    obtain ⟨n, rfl⟩ : ∃ k, n = k + 1 := ⟨n - 1, by omega⟩
    have hL := h.1
    refine ⟨v, ?_, h5, fun _ _ => rfl, fun _ _ => rfl⟩
    rw [fX8_number_24]
    dsimp only
    by_cases c : 600 ≤ j
    · rw [if_pos (show (600 : Int32) ≤ nI j from leY (a := 600) (by omega) (by omega) c)]
      rfl
    · rw [if_neg (show ¬ (600 : Int32) ≤ nI j from leN (a := 600) (by omega) (by omega) c), h5, byteAt_C h h2 (by omega), zbind_some, isDg_at (fun q => (h.2.2 p q).2), zbind_some, if_neg (show ¬ (p < L.length ∧ bDg L p = true) from fun z => by omega), if_pos rfl]
      rfl
  | succ d ih =>
    intro n j p x v e hj hn h h2 hp h5 hx
    obtain ⟨n, rfl⟩ : ∃ k, n = k + 1 := ⟨n - 1, by omega⟩
    have hL := h.1
    have hpl : p < L.length := by omega
    have hb := (h.2.2 p hpl).2
    rw [tDig]
    by_cases c : bDg L p = true
    · have c2 := of_decide_eq_true c
      rw [if_pos c]
      obtain ⟨w, hw, w5, wa, wk⟩ := ih n (j + 1) (p + 1) (min (x * 10 + (bA L p - 48)) 100000) (zup v 1 5 (nI (p + 1))) (by omega) (by omega) (by omega) (bBC_f h (fr1_5 v _)) ((p_up_n _ _ (Or.inr (by decide))).trans h2) (by omega) (p_up_s _ _ _ _) (Nat.min_le_right _ _)
      refine ⟨w, ?_, w5, fun a g => (wa a g).trans (p_up_a _ _ _ g), fun k g => (wk k g).trans (p_up_n _ _ (Or.inr g))⟩
      rw [fX8_number_24]
      dsimp only
      have hbp : bQt L p = nI (bA L p) := if_pos hpl
      rw [if_neg (show ¬ (600 : Int32) ≤ nI j from leN (a := 600) (by omega) (by omega) (by omega)), h5, byteAt_C h h2 (by omega), zbind_some, isDg_at (fun q => (h.2.2 p q).2), zbind_some, if_pos (show p < L.length ∧ bDg L p = true from ⟨hpl, c⟩), if_neg (show ¬ (1 : Int32) = 0 by decide), h5, byteAt_C h h2 (by omega), zbind_some, hbp, zlet_eq, zlet_eq, h5, show (nI p + 1 : Int32) = nI (p + 1) from nI_add _ 1, show (nI j + 1 : Int32) = nI (j + 1) from nI_add _ 1, show (nI x * 10 : Int32) = nI (x * 10) from pk_mul _ 10, nI_add, show (nI (x * 10 + bA L p) - 48 : Int32) = nI (x * 10 + bA L p - 48) from nI_sub' (b := 48) (by omega), show zmin (nI (x * 10 + bA L p - 48)) 100000 = nI (min (x * 10 + bA L p - 48) 100000) from zmin_nI (b := 100000) (by omega) (by omega), show x * 10 + bA L p - 48 = x * 10 + (bA L p - 48) by omega, hw]
    · rw [if_neg c]
      refine ⟨v, ?_, h5, fun _ _ => rfl, fun _ _ => rfl⟩
      rw [fX8_number_24]
      dsimp only
      rw [if_neg (show ¬ (600 : Int32) ≤ nI j from leN (a := 600) (by omega) (by omega) (by omega)), h5, byteAt_C h h2 (by omega), zbind_some, isDg_at (fun q => (h.2.2 p q).2), zbind_some, if_neg (show ¬ (p < L.length ∧ bDg L p = true) from fun z => c z.2), if_pos rfl]
theorem p_number {L : List Nat} {τ : rdE} {v : zV} (h : rdC L τ v) {lo hi : Int32} {a b : Nat} (hbd : okBd lo hi a b) : ∃ r w, fX8_number 1 lo hi v = some (r, w) ∧ rdC L (tNum L a b τ).2 w ∧ (∀ q, (tNum L a b τ).2 = .inl q → r = nI (tNum L a b τ).1) ∧ fr1 v w := by
  obtain ⟨u, hu, uR, uX, uf⟩ := p_looksAtDigit h
  unfold fX8_number
  by_cases c0 : tDg L τ = true
  · rw [if_pos c0] at hu
    rw [hu, zbind_some, if_neg (show ¬ (1 : Int32) = 0 by decide)]
    cases τ with
    | inr f => cases c0
    | inl p =>
      have c : p < L.length ∧ bDg L p = true := of_decide_eq_true c0
      have hp := rdC_np uR
      have hL := uR.1.1
      have u2 : u 1 2 = nI 0 := by obtain ⟨-, p0, -, -, h4, -⟩ := uR; exact h4
      obtain ⟨w, hw, w5, wa, wk⟩ := p_num24 lo hi (nI p) (L.length - p) zFU 0 p 0 u rfl (by omega) (by unfold zFU; omega) uR.1 u2 hp.1 (uX p rfl) (by decide)
      have hbd2 := tDig_bd L (L.length - p) p 0 (by decide)
      have hle := tDig_le L hp.1
      have hwR : rdC L (.inl (tSk L (tDig L (L.length - p) p 0).1)) w := rdC_at uR (lk_fr wa wk) (wk 2 (by decide)) (wk 3 (by decide)) hle w5
      have e1 : fX8_number_24 zFU 1 lo hi (u 1 5) 0 0 u = fX8_number_86 1 lo hi (nI p) (nI (tDig L (L.length - p) p 0).2) w := by
        rw [uX p rfl]
        exact hw
      rw [e1]
      unfold fX8_number_86 tNum
      dsimp only
      rw [if_pos c]
      by_cases g : a ≤ (tDig L (L.length - p) p 0).2 ∧ (tDig L (L.length - p) p 0).2 < b
      · rw [if_pos g]
        refine ⟨nI (tDig L (L.length - p) p 0).2, w, ?_, hwR, fun _ _ => rfl, fr1_tr uf (lk_fr wa wk)⟩
        rw [p_within, zbind_some, if_pos ((hbd _ hbd2).mpr g), if_neg (show ¬ (1 : Int32) = 0 by decide)]
      · rw [if_neg g]
        obtain ⟨t, ht, tR, tf⟩ := p_fail hwR (k := 2) (pl := p) (by decide) (y := nI p) (fun _ _ => rfl)
        refine ⟨lo, t, ?_, tR, fun q hq => (by cases hq), fr1_tr uf (fr1_tr (lk_fr wa wk) tf)⟩
        rw [p_within, zbind_some, if_neg (fun z => g ((hbd _ hbd2).mp z)), if_pos rfl, show (2 : Int32) = nI 2 from rfl, ht, zbindv_some]
  · rw [if_neg c0] at hu
    rw [hu, zbind_some, if_pos rfl]
    cases τ with
    | inl p =>
      have c : ¬ (p < L.length ∧ bDg L p = true) := fun z => c0 (decide_eq_true z)
      obtain ⟨t, ht, tR, tf⟩ := p_misfit uR (pl := p) uX (fun q hq => (by cases hq; rfl))
      have e : tNum L a b (.inl p) = (0, .inr (1, p)) := if_neg c
      rw [e]
      refine ⟨lo, t, ?_, tR, fun q hq => (by cases hq), fr1_tr uf tf⟩
      rw [ht, zbindv_some]
    | inr f =>
      obtain ⟨t, ht, tR, tf⟩ := p_misfit uR (pl := 0) uX (fun q hq => (by cases hq))
      refine ⟨lo, t, ?_, tR, fun q hq => (by cases hq), fr1_tr uf tf⟩
      rw [ht, zbindv_some]
end
