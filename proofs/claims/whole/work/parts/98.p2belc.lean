/-! BELIEFS, the class -/
section
theorem dig_cdB {s : Nat → Nat} {k : Nat} (x : Nat) (h : ∀ q, q < k + 1 → 0 < s q ∧ s q ≤ 3) : dig (cdBl s (k + 1) x) k = x % s k := by
  unfold cdBl
  rw [dig_CF (k + 1) (fun q hq => by
    have h1 := dgB_lt (s := s) (k + 1) x q (fun q hq => (h q hq).1) hq
    have := (h q hq).2
    omega), if_pos (by omega), dgB_top]
theorem shl2 {q d : Nat} (hq : q < 6) (hd : d < 4) : nI d <<< ((2 * nI q) &&& 31) = nI (d * 4 ^ q) := by
  have e : (4 : Nat) ^ q = 2 ^ (2 * q) := by rw [Nat.pow_mul]
  have h1 : 4 ^ q ≤ 4 ^ 5 := Nat.pow_le_pow_right (by decide) (by omega)
  have h2 : d * 4 ^ q ≤ 3 * 4 ^ q := Nat.mul_le_mul_right _ (by omega)
  rw [e]
  exact pk_shlN _ _ (sh2 q hq) (by rw [← e]; omega)
theorem p_cbL {s : Nat → Nat} {Q : Nat} (hQ : Q ≤ 6) (hs : ∀ q, q < Q → 0 < s q ∧ s q ≤ 3) {v : zV} (hv : ∀ q, q < Q → v 4 q = nI (s q)) : ∀ (k n x : Nat), k ≤ Q → k < n → x < prBl s k → fX6_codeBehind_12 n 87 (nI (cdBl s k x)) (nI k - 1) v = some (if x + 1 < prBl s k then nI (cdBl s k (x + 1)) else -nI 1, v) := by
  intro k
  induction k with
  | zero =>
    intro n x hk hn hx
    obtain ⟨n, rfl⟩ : ∃ k, n = k + 1 := ⟨n - 1, by omega⟩
    rw [fX6_codeBehind_12]
    dsimp only
    rw [if_pos (by decide), if_neg (by rw [prBl] at hx ⊢; omega)]
    rfl
  | succ k ih =>
    intro n x hk hn hx
    obtain ⟨n, rfl⟩ : ∃ k, n = k + 1 := ⟨n - 1, by omega⟩
    have hs1 : ∀ q, q < k + 1 → 0 < s q ∧ s q ≤ 3 := fun q hq => hs q (by omega)
    have h0 := (hs k (by omega)).1
    have h3 := (hs k (by omega)).2
    have hc := cdB_lt (k := k + 1) x hs1
    have h4 : 4 ^ (k + 1) ≤ 4 ^ 6 := Nat.pow_le_pow_right (by decide) (by omega)
    have hm := Nat.mod_lt x h0
    rw [fX6_codeBehind_12]
    dsimp only
    rw [show nI (k + 1) - 1 = nI k from nI_pred k, if_neg (nI_pos (by omega)), rf_87_0, rf_3_7, p_get (by rw [ln_4]; omega), zbind_some, hv k (by omega), bel_shift k (by omega) _ (by omega), dig_cdB x hs1, shl2 (by omega) (by omega), nI_1, zlet_eq]
    simp (disch := omega) only [nI_le']
    by_cases c : x % s k + 1 < s k
    · rw [if_neg (by omega), if_pos (prB_turn h0 c hx), cdB_turn h0 c, show (1 : Int32) = nI 1 from rfl, shl2 (by omega) (by omega), nI_add, Nat.one_mul]
    · rw [if_pos (by omega), cdB_succ, nI_sub' (by omega), Nat.add_sub_cancel, show nI k + (-1 : Int32) = nI k - 1 from (Int32.sub_eq_add_neg _ _).symm]
      have hx2 : x / s k < prBl s k := by
        rw [prBl] at hx
        rw [Nat.div_lt_iff_lt_mul h0]
        exact hx
      refine Eq.trans (ih n (x / s k) (by omega) (by omega) hx2) ?_
      by_cases c2 : x / s k + 1 < prBl s k
      · rw [if_pos c2, if_pos ((prB_carry h0 c).mpr c2), (cdB_carry h0 c).1]
      · rw [if_neg c2, if_neg (fun g => c2 ((prB_carry h0 c).mp g))]
/-- the code of the j-th try, none behind the last -/
def cjB (α : sA) (j : Nat) : Int32 := if j < prBl (α 1) (α 0 0) then nI (cdBl (α 1) (α 0 0) j) else -nI 1
theorem p_codeBehind {α α' : sA} (ha : okA α) {v : zV} (hA : pCA 3 v α') (e0 : α' 0 = α 0) (e1 : α' 1 = α 1) {j : Nat} (hj : j < prBl (α 1) (α 0 0)) : fX6_codeBehind 87 (nI (cdBl (α 1) (α 0 0) j)) v = some (cjB α (j + 1), v) := by
  unfold fX6_codeBehind
  rw [rf_87_0, hA.1.1, e0]
  exact p_cbL ha.1.1 (okA_side ha) (fun q hq => by rw [← e1]; exact hA.2.1 q (by rw [e0]; exact hq)) (α 0 0) zFU j (Nat.le_refl _) (by unfold zFU; have := ha.1.1; omega) hj
theorem decB_zit (f : Nat → Nat) (n : Nat) : zit (fun k s => s * 10 + f k) n 0 0 = dcBl f n := by
  induction n with
  | zero => rfl
  | succ n ih => rw [zit_end, ih, Nat.zero_add]; rfl
/-- noted: a way -/
theorem p_note {α' : sA} (ha : okA α') {v : zV} (hA : pCA 3 v α') {m : Nat} (hm : m < α' 0 1) {n0 : Nat} {f0 : Int32} {sn : Nat → Nat} (h6 : v 87 6 = nI n0) (hn0 : n0 < 1000) (h7 : v 87 7 = f0) (h95 : ∀ q, q < 6 → v 95 q = nI (sn q)) : ∃ w, fX6_noteWay 87 (nI m) v = some w ∧ w 87 6 = nI (n0 + 1) ∧ w 87 7 = (if n0 = 0 then nI (dcBl (α' (10 + m)) (α' 0 0)) else f0) ∧ (∀ q, q < 6 → w 95 q = nI (if q < α' 0 0 then sn q ||| 2 ^ α' (10 + m) q else sn q)) ∧ ∀ a, a ≠ 87 → a ≠ 95 → w a = v a := by
  have hQ := ha.1.1
  have hbl : ∀ q, q < α' 0 0 → α' (10 + m) q < 3 := fun q hq => by
    have h1 := ha.2.2.2.2.2.1 m hm q hq
    have h2 := (ha.2.1 q hq).2
    omega
  unfold fX6_noteWay
  have key := lpR (σ := Nat) (fun n j s v => fX6_noteWay_4 n 87 (nI m) (nI s) (nI j) v) (fun k s => s * 10 + α' (10 + m) k) (α' 0 0) (fun j s w => s < 10 ^ j ∧ (∀ q, q < 6 → w 95 q = nI (if q < j then sn q ||| 2 ^ α' (10 + m) q else sn q)) ∧ ∀ a, a ≠ 95 → w a = v a) (fun s w => w 87 6 = nI (n0 + 1) ∧ w 87 7 = (if n0 = 0 then nI s else f0) ∧ (∀ q, q < 6 → w 95 q = nI (if q < α' 0 0 then sn q ||| 2 ^ α' (10 + m) q else sn q)) ∧ ∀ a, a ≠ 87 → a ≠ 95 → w a = v a) (fun n1 s w hK => ?_) (fun n1 j s w hj hK => ?_) (α' 0 0) zFU 0 0 v (Nat.zero_add _) (by unfold zFU; omega) ⟨Nat.one_pos, fun q hq => by rw [if_neg (Nat.not_lt_zero q)]; exact h95 q hq, fun _ _ => rfl⟩
  · rw [decB_zit] at key
    exact key
  · show ∃ r, fX6_noteWay_4 (n1 + 1) 87 (nI m) (nI s) (nI (α' 0 0)) w = some r ∧ _
    obtain ⟨hs, h5, hw⟩ := hK
    have e6 : w 87 6 = nI n0 := by rw [hw 87 (by decide)]; exact h6
    have e7 : w 87 7 = f0 := by rw [hw 87 (by decide)]; exact h7
    rw [fX6_noteWay_4]
    dsimp only
    rw [rf_87_0, hw 3 (by decide), hA.1.1, if_pos (Int32.le_refl _)]
    unfold fX6_noteWay_61
    simp only [zlet_eq]
    rw [e6, e7]
    by_cases c : n0 = 0
    · rw [if_pos (show nI n0 = (0 : Int32) by rw [c]; rfl), if_pos c]
      refine ⟨_, rfl, ?_, ?_, fun q hq => ?_, fun a g1 g2 => ?_⟩
      · rw [p_up_s, p_up_n _ _ (Or.inr (by decide)), e6, nI_1]
      · rw [p_up_n _ _ (Or.inr (by decide)), p_up_s]
      · rw [p_up_a _ _ _ (by decide), p_up_a _ _ _ (by decide)]; exact h5 q hq
      · rw [p_up_a _ _ _ g1, p_up_a _ _ _ g1]; exact hw a g2
    · rw [if_neg (nI_ne0 (by omega) (by omega)), if_neg c]
      refine ⟨_, rfl, ?_, ?_, fun q hq => ?_, fun a g1 g2 => ?_⟩
      · rw [p_up_s, p_up_n _ _ (Or.inr (by decide)), e6, nI_1]
      · rw [p_up_n _ _ (Or.inr (by decide)), p_up_s]
      · rw [p_up_a _ _ _ (by decide), p_up_a _ _ _ (by decide)]; exact h5 q hq
      · rw [p_up_a _ _ _ g1, p_up_a _ _ _ g1]; exact hw a g2
  · show ∃ u, fX6_noteWay_4 (n1 + 1) 87 (nI m) (nI s) (nI j) w = fX6_noteWay_4 n1 87 (nI m) (nI (s * 10 + α' (10 + m) j)) (nI (j + 1)) u ∧ _
    obtain ⟨hs, h5, hw⟩ := hK
    have hAw : pCA 3 w α' := CA_fr hA (fun a g1 g2 => hw a (by omega))
    have hb := hbl j hj
    rw [fX6_noteWay_4]
    dsimp only
    rw [rf_87_0, hAw.1.1, if_neg (nI_ge hj (by omega)), p_sideOf hAw ha hm hj, zbind_some, rf_87_5, p_get (by rw [ln_95]; omega), zbind_some, p_set (by rw [ln_95]; omega), zbindv_some, h5 j (by omega), if_neg (Nat.lt_irrefl _), nI_bit (by omega), nI_or, show (10 : Int32) = nI 10 from rfl, pk_mul, nI_add, nI_1]
    refine ⟨_, rfl, ?_, fun q hq => ?_, fun a g => (p_up_a _ _ _ g).trans (hw a g)⟩
    · rw [Nat.pow_succ]; omega
    · rw [p_up]
      by_cases c : q = j
      · rw [c, if_pos ⟨rfl, rfl⟩, if_pos (by omega)]
      · rw [if_neg (fun g => c g.2), h5 q hq]
        by_cases c2 : q < j
        · rw [if_pos c2, if_pos (by omega)]
        · rw [if_neg c2, if_neg (by omega)]
theorem upup (w : zV) (a k : Nat) (x y : Int32) : zup (zup w a k x) a k y = zup w a k y := by
  funext b j
  rw [p_up, p_up, p_up]
  by_cases c : b = a ∧ j = k
  · rw [if_pos c, if_pos c]
  · rw [if_neg c, if_neg c, if_neg c]
theorem frC_zup {u x : zV} (e : frC u x) (a k : Nat) (y : Int32) : frC (zup u a k y) (zup x a k y) := by
  intro b g1 g2 g3
  funext j
  rw [p_up, p_up, e b g1 g2 g3]
theorem CA_with {α : sA} {m : Nat} (hm : m < 16) {w : zV} (h : pCA 3 (zup w 6 m (nI (pCode α m))) α) (x : Nat) : pCA 3 (zup w 6 m (nI (cdBl (α 1) (α 0 0) x))) (sWith α m x) := by
  have e : ∀ a, a ≠ 6 → zup w 6 m (nI (cdBl (α 1) (α 0 0) x)) a = zup w 6 m (nI (pCode α m)) a := fun a g => by rw [p_up_a _ _ _ g, p_up_a _ _ _ g]
  obtain ⟨h0, h1, h2, h3, h4, h5, h6⟩ := h
  unfold pCA
  rw [sWith_0, sWith_1, sWith_3, sWith_n α m x (i := 2) (by omega), e 3 (by decide), e (3 + 1) (by decide), e (3 + 2) (by decide), e (3 + 4) (by decide), e (3 + 5) (by decide), e (3 + 6) (by decide), e (3 + 7) (by decide), e (3 + 8) (by decide), e (3 + 9) (by decide)]
  refine ⟨h0, h1, h2, fun j hj => ?_, h4, fun k hk => ?_, fun k hk => ?_⟩
  · show zup w 6 m (nI (cdBl (α 1) (α 0 0) x)) 6 j = _
    have h7 : zup w 6 m (nI (pCode α m)) 6 j = nI (pCode α j) := h3 j hj
    rw [p_up] at h7 ⊢
    by_cases c : j = m
    · rw [c, if_pos ⟨rfl, rfl⟩, pCode_with]
    · rw [if_neg (fun g => c g.2)] at h7 ⊢
      rw [h7, pCode_other x c]
  · rw [sWith_n α m x (by omega)]
    exact h5 k hk
  · rw [sWith_n α m x (by omega)]
    exact h6 k hk
/-- the tries in their course -/
def KB (v0 : zV) (α : sA) (l : sL) (β : sB) (m j : Nat) (s : sTR) (w : zV) : Prop := okTR α j s ∧ CE (zup w 6 m (nI (pCode α m))) α l ∧ pCB (zup w 6 m (nI (pCode α m))) β ∧ frC v0 (zup w 6 m (nI (pCode α m))) ∧ w 87 6 = nI s.1 ∧ w 87 7 = s.2.1 ∧ ∀ q, q < 6 → w 95 q = nI (s.2.2 q)
theorem p_try51 {α : sA} {l : sL} {β : sB} (ha : okA α) (hl : okL l) (hb : okBk α β) {m : Nat} (hm : m < α 0 1) {v0 v : zV} {s : sTR} (h : KB v0 α l β m 0 s v) : ∃ w, fX6_tryBeliefs_51 zFU 87 (nI m) (nI (pCode α m)) (cjB α 0) (nI 0) v = some w ∧ (CE w α l ∧ frC v0 w ∧ w 87 6 = nI (zit (sTryS α l β m) (prBl (α 1) (α 0 0)) 0 s).1 ∧ w 87 7 = (zit (sTryS α l β m) (prBl (α 1) (α 0 0)) 0 s).2.1 ∧ ∀ q, q < 6 → w 95 q = nI ((zit (sTryS α l β m) (prBl (α 1) (α 0 0)) 0 s).2.2 q)) := by
  have hN := prB_729 ha
  have hM := ha.1.2.1
  have hs := okA_side ha
  have hN0 := prB_pos (s := α 1) (α 0 0) (fun q hq => (hs q hq).1)
  refine lpR (σ := sTR) (fun n j _ v => fX6_tryBeliefs_51 n 87 (nI m) (nI (pCode α m)) (cjB α j) (nI j) v) (sTryS α l β m) (prBl (α 1) (α 0 0)) (KB v0 α l β m) (fun s w => CE w α l ∧ frC v0 w ∧ w 87 6 = nI s.1 ∧ w 87 7 = s.2.1 ∧ ∀ q, q < 6 → w 95 q = nI (s.2.2 q)) (fun n1 s w hK => ?_) (fun n1 j s w hj hK => ?_) (prBl (α 1) (α 0 0)) zFU 0 s v (Nat.zero_add _) (by unfold zFU; omega) h
  · obtain ⟨hok, hE, hB, hv, h6, h7, h95⟩ := hK
    refine ⟨zup w 6 m (nI (pCode α m)), ?_, hE, hv, by rw [p_up_a _ _ _ (by decide)]; exact h6, by rw [p_up_a _ _ _ (by decide)]; exact h7, fun q hq => by rw [p_up_a _ _ _ (by decide)]; exact h95 q hq⟩
    show fX6_tryBeliefs_51 (n1 + 1) 87 (nI m) (nI (pCode α m)) (cjB α (prBl (α 1) (α 0 0))) (nI (prBl (α 1) (α 0 0))) w = _
    have e1 : cjB α (prBl (α 1) (α 0 0)) = (-1 : Int32) := if_neg (Nat.lt_irrefl _)
    rw [fX6_tryBeliefs_51, e1]
    dsimp only
    rw [rf_87_0, rf_3_9, p_set (by rw [ln_6]; omega), if_pos rfl]
    split <;> rfl
  · obtain ⟨hok, hE, hB, hv, h6, h7, h95⟩ := hK
    have hm16 : m < 16 := by omega
    have hc : cjB α j = nI (cdBl (α 1) (α 0 0) j) := if_pos hj
    have hcl := cdB_lt (k := α 0 0) j hs
    have h46 : 4 ^ α 0 0 ≤ 4 ^ 6 := Nat.pow_le_pow_right (by decide) ha.1.1
    have haw := okA_with ha hm j
    have hbw := okBk_with hb m j
    have hmw : m < sWith α m j 0 1 := by rw [sWith_0]; exact hm
    have eu : ∀ a, a ≠ 6 → zup w 6 m (nI (cdBl (α 1) (α 0 0) j)) a = zup w 6 m (nI (pCode α m)) a := fun a g => by rw [p_up_a _ _ _ g, p_up_a _ _ _ g]
    have hEu : CE (zup w 6 m (nI (cdBl (α 1) (α 0 0) j))) (sWith α m j) l := ⟨CA_with hm16 hE.1 j, CL_fr hE.2 (eu 23 (by decide)) (eu 24 (by decide))⟩
    have hBu : pCB (zup w 6 m (nI (cdBl (α 1) (α 0 0) j))) β := CB_fr hB (fun a g1 g2 => eu a (by omega))
    have huu : zup (zup w 6 m (nI (cdBl (α 1) (α 0 0) j))) 6 m (nI (pCode α m)) = zup w 6 m (nI (pCode α m)) := upup _ _ _ _ _
    have e6 : zup w 6 m (nI (cdBl (α 1) (α 0 0) j)) 87 6 = nI s.1 := by rw [p_up_a _ _ _ (by decide)]; exact h6
    have e7 : zup w 6 m (nI (cdBl (α 1) (α 0 0) j)) 87 7 = s.2.1 := by rw [p_up_a _ _ _ (by decide)]; exact h7
    have e95 : ∀ q, q < 6 → zup w 6 m (nI (cdBl (α 1) (α 0 0) j)) 95 q = nI (s.2.2 q) := fun q hq => by rw [p_up_a _ _ _ (by decide)]; exact h95 q hq
    have hok1 := okTR_s ha l β m j hok
    show ∃ u, fX6_tryBeliefs_51 (n1 + 1) 87 (nI m) (nI (pCode α m)) (cjB α j) (nI j) w = fX6_tryBeliefs_51 n1 87 (nI m) (nI (pCode α m)) (cjB α (j + 1)) (nI (j + 1)) u ∧ KB v0 α l β m (j + 1) (sTryS α l β m j s) u
    rw [fX6_tryBeliefs_51, hc]
    dsimp only
    rw [show (729 : Int32) = nI 729 from rfl, if_neg (nI_ge (by omega) (by decide)), show (-1 : Int32) = -nI 1 from rfl]
    have hne : ¬ nI (cdBl (α 1) (α 0 0) j) = -nI 1 := fun g => by
      rw [ng_eq (by omega) (by decide) (by decide)] at g
      exact g
    rw [if_neg hne, rf_87_0, rf_3_9, p_set (by rw [ln_6]; omega), zbindv_some]
    generalize zup w 6 m (nI (cdBl (α 1) (α 0 0) j)) = u at eu hEu hBu huu e6 e7 e95
    obtain ⟨x, hx, hxo⟩ := p_holds haw hl hbw hEu hBu (x1 := (0 : Int32)) (x2 := -nI 1) (mo := none) rfl
    have hxf : frC u x := frC_88 hxo
    have hEx : CE x (sWith α m j) l := CE_f hEu hxf
    have f6 : x 87 6 = nI s.1 := by rw [hxo 87 (by omega) (by decide) (by decide) (by decide)]; exact e6
    have f7 : x 87 7 = s.2.1 := by rw [hxo 87 (by omega) (by decide) (by decide) (by decide)]; exact e7
    have f95 : ∀ q, q < 6 → x 95 q = nI (s.2.2 q) := fun q hq => by rw [hxo 95 (by omega) (by decide) (by decide) (by decide)]; exact e95 q hq
    have hfz : frC (zup w 6 m (nI (pCode α m))) (zup x 6 m (nI (pCode α m))) := by
      rw [← huu]
      exact frC_zup hxf _ _ _
    rw [hx, zbind_some]
    unfold sTryS
    unfold sTryS at hok1
    by_cases c : sHold (sWith α m j) l β none = true
    · rw [if_pos c, if_neg (show ¬ nI 1 = (0 : Int32) by decide)]
      rw [if_pos c] at hok1 ⊢
      obtain ⟨y, hy, g6, g7, g95, gf⟩ := p_note haw hEx.1 hmw f6 (by have := hok.1; omega) f7 f95
      have hyf : frC x y := fun a _ _ g3 => gf a (by omega) (by omega)
      have hcb := p_codeBehind ha (CA_fr hEx.1 (fun a g1 g2 => gf a (by omega) (by omega))) (sWith_0 α m j) (sWith_1 α m j) hj
      rw [hy, zbindv_some, hcb, zbind_some, nI_1]
      have hfy : frC (zup w 6 m (nI (pCode α m))) (zup y 6 m (nI (pCode α m))) := frC_tr hfz (frC_zup hyf _ _ _)
      refine ⟨y, rfl, hok1, CE_f hE hfy, CB_f hB hfy, frC_tr hv hfy, g6, ?_, fun q hq => ?_⟩
      · rw [g7, sWith_s, sWith_0]
      · rw [g95 q hq, sWith_s, sWith_0]
    · rw [if_neg c, if_pos (show nI 0 = (0 : Int32) from rfl)]
      rw [if_neg c] at hok1 ⊢
      have hcb := p_codeBehind ha hEx.1 (sWith_0 α m j) (sWith_1 α m j) hj
      rw [hcb, zbind_some, nI_1]
      exact ⟨x, rfl, hok1, CE_f hE hfz, CB_f hB hfz, frC_tr hv hfz, f6, f7, f95⟩
theorem p_tries {α : sA} {l : sL} {β : sB} (ha : okA α) (hl : okL l) (hb : okBk α β) {m : Nat} (hm : m < α 0 1) {v : zV} (hE : CE v α l) (hB : pCB v β) : ∃ w, fX6_tryBeliefs 87 (nI m) v = some w ∧ CE w α l ∧ frC v w ∧ w 87 6 = nI (sTry α l β m).1 ∧ w 87 7 = (sTry α l β m).2.1 ∧ ∀ q, q < 6 → w 95 q = nI ((sTry α l β m).2.2 q) := by
  have hM := ha.1.2.1
  have hs := okA_side ha
  have hN0 := prB_pos (s := α 1) (α 0 0) (fun q hq => (hs q hq).1)
  unfold fX6_tryBeliefs
  rw [zlet_eq, zlet_eq, show (0 : Int32) = nI 0 from rfl]
  have hv1 : frC v (zup (zup v 87 6 (nI 0)) 87 7 (-1)) := frC_tr (frC_up _ _ (by decide) (by decide)) (frC_up _ _ (by decide) (by decide))
  have e6 : zup (zup v 87 6 (nI 0)) 87 7 (-1) 87 6 = nI 0 := by rw [p_up_n _ _ (Or.inr (by decide)), p_up_s]
  have e7 : zup (zup v 87 6 (nI 0)) 87 7 (-1) 87 7 = -1 := p_up_s _ _ _ _
  generalize zup (zup v 87 6 (nI 0)) 87 7 (-1) = t at hv1 e6 e7
  refine lpR (σ := Unit) (fun n j _ v => fX6_tryBeliefs_12 n 87 (nI m) (nI j) v) (fun _ x => x) 6 (fun j _ w => (∀ k, k < j → w 95 k = nI 0) ∧ ∀ a, a ≠ 95 → w a = t a) (fun _ w => CE w α l ∧ frC v w ∧ w 87 6 = nI (sTry α l β m).1 ∧ w 87 7 = (sTry α l β m).2.1 ∧ ∀ q, q < 6 → w 95 q = nI ((sTry α l β m).2.2 q)) (fun n1 _ w hK => ?_) (fun n1 j _ w hj hK => ?_) 6 zFU 0 () t rfl (by unfold zFU; omega) ⟨fun k hk => absurd hk (Nat.not_lt_zero k), fun _ _ => rfl⟩
  · obtain ⟨h95, hw⟩ := hK
    have hf : frC v w := frC_tr hv1 (fun a _ _ g3 => hw a (by omega))
    have hEw := CE_f hE hf
    have h6m : w 6 m = nI (pCode α m) := hEw.1.2.2.2.1 m hm
    have hid : zup w 6 m (nI (pCode α m)) = w := by
      funext a j
      rw [p_up]
      by_cases c : a = 6 ∧ j = m
      · rw [if_pos c, c.1, c.2, h6m]
      · rw [if_neg c]
    obtain ⟨y, hy, g1, g2, g3, g4, g5⟩ := p_try51 ha hl hb hm (v0 := v) (v := w) (s := (0, -1, fun _ => 0)) ⟨okTR_0 α, by rw [hid]; exact hEw, by rw [hid]; exact CB_f hB hf, by rw [hid]; exact hf, by rw [hw 87 (by decide)]; exact e6, by rw [hw 87 (by decide)]; exact e7, h95⟩
    refine ⟨y, ?_, g1, g2, g3, g4, g5⟩
    show fX6_tryBeliefs_12 (n1 + 1) 87 (nI m) (nI 6) w = some y
    have hc0 : cjB α 0 = (0 : Int32) := by
      unfold cjB
      rw [if_pos hN0]
      unfold cdBl
      rw [sCF_cg (g := fun _ => 0) (α 0 0) (fun q _ => dgB_0 (α 0 0) q)]
      have : ∀ n, sCF (fun _ => 0) n = 0 := fun n => by
        induction n with
        | zero => rfl
        | succ n ih => rw [sCF, ih, Nat.zero_mul]
      rw [this]
      rfl
    rw [fX6_tryBeliefs_12]
    dsimp only
    rw [rf_87_5, ln_95, if_pos (by decide), rf_87_0, rf_3_9, p_get (by rw [ln_6]; omega), zbind_some, h6m, ← hc0]
    rw [hc0] at hy
    rw [hc0]
    exact hy
  · show ∃ u, fX6_tryBeliefs_12 (n1 + 1) 87 (nI m) (nI j) w = fX6_tryBeliefs_12 n1 87 (nI m) (nI (j + 1)) u ∧ _
    obtain ⟨h95, hw⟩ := hK
    rw [fX6_tryBeliefs_12]
    dsimp only
    rw [rf_87_5, ln_95, show Int32.ofNat 6 = nI 6 from rfl, if_neg (nI_ge hj (by decide)), zix_nI (by omega) (by omega), zlet_eq, nI_cl' (by omega), nI_1]
    refine ⟨_, rfl, fun k hk => ?_, fun a g => (p_up_a _ _ _ g).trans (hw a g)⟩
    rw [p_up]
    by_cases c : k = j
    · rw [c, if_pos ⟨rfl, rfl⟩]
      rfl
    · rw [if_neg (fun g => c g.2)]
      exact h95 k (by omega)
/-- the only side there is -/
def sOnly (b : Nat) : Int32 := if b = 1 then 0 else if b = 2 then 1 else if b = 4 then 2 else -1
theorem p_onlySide {q b : Nat} (hq : q < 6) (hb : b < 8) {v : zV} (h : v 95 q = nI b) : fX6_onlySide 87 (nI q) v = some (sOnly b, v) := by
  unfold fX6_onlySide sOnly
  rw [rf_87_5, p_get (by rw [ln_95]; omega), zbind_some, h, show (1 : Int32) = nI 1 from rfl, show (2 : Int32) = nI 2 from rfl, show (3 : Int32) = nI 3 from rfl, show (4 : Int32) = nI 4 from rfl]
  simp (disch := omega) only [nI_eq']
  by_cases c1 : b = 1
  · rw [if_pos c1, if_pos c1]
  · rw [if_neg c1, if_neg c1]
    by_cases c2 : b = 2
    · rw [if_pos c2, if_pos c2]
    · rw [if_neg c2, if_neg c2]
      by_cases c3 : b = 3
      · rw [if_pos c3, if_neg (by omega)]
      · rw [if_neg c3]
        by_cases c4 : b = 4
        · rw [if_pos c4, if_pos c4]
        · rw [if_neg c4, if_neg c4]
end
