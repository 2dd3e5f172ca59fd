section
/-! PRAISES: the class's search, level by level -/
def sCst : Nat → Nat
  | 0 => 18
  | d + 1 => 17 * (1 + sCst d) + 1
/-- one choice: what a level does of it -/
def sWaysS (α : sA) (l : sL) (m : Nat) (x : Int32) (d : Nat) (ρ : sR) (p w c : Nat) (st : Option (Nat × Nat)) : Option (Nat × Nat) := if sLess st (p + if c = 0 then 0 else 1) = true ∧ sOkc ρ c = true then (if (sStp α l x c ρ).1 = some m then some (p + (if c = 0 then 0 else 1), (100 * w + c) * 100 ^ d) else sWays α l m x d (sStp α l x c ρ).2 (p + if c = 0 then 0 else 1) (100 * w + c) st) else st
theorem sWays_S (α : sA) (l : sL) (m : Nat) (x : Int32) (d : Nat) (ρ : sR) (p w : Nat) (st : Option (Nat × Nat)) : sWays α l m x (d + 1) ρ p w st = zit (sWaysS α l m x d ρ p w) (α 0 1 + 1) 0 st := rfl
theorem okR_stp {α : sA} {l : sL} {x : Int32} (ha : okA α) {ρ : sR} (h : okR α ρ) (hy : sSc ρ 0 < 900) (c : Nat) : okR α (sStp α l x c ρ).2 ∧ sSc (sStp α l x c ρ).2 0 = sSc ρ 0 + 1 := by
  have h1 : okR α (sAddO x c ρ) := by
    unfold sAddO
    split
    · exact h
    · exact h
  have h2 : sSc (sAddO x c ρ) 0 = sSc ρ 0 := by
    unfold sAddO
    split <;> rfl
  have h3 := okR_pass (l := l) ha h1 (by rw [h2]; exact hy)
  rw [h2] at h3
  exact h3
def pLevel (α : sA) (l : sL) (Y m what : Nat) (x : Int32) (d : Nat) : Prop := ∀ (k n : Nat) (ρ : sR) (p w : Nat) (st : Option (Nat × Nat)) (v : zV), k + d = Y → sCst d ≤ n → n ≤ zFU → okR α ρ → sSc ρ 0 + d < 800 → CE v α l → RC (63 + 6 * k) v ρ → pPW v k p w → v 62 k = -nI 1 → pST Y v st →
    ∃ n' u, n ≤ n' + sCst d ∧ n' ≤ n ∧ fX4_waysToPraise_40 n 52 (nI m) (nI Y) x (nI what) (nI k) (nI (zFU - n)) v = fX4_waysToPraise_40 n' 52 (nI m) (nI Y) x (nI what) (nI k + -nI 1) (nI (zFU - n')) u ∧ pST Y u (sWays α l m x d ρ p w st) ∧ onlyS k v u
theorem zFU_v : zFU = 100000 := rfl
theorem p_levelL {α : sA} {l : sL} (ha : okA α) (hl : okL l) {Y m what : Nat} {x : Int32} (hY : Y ≤ 3) (hm : m < 16) {d k : Nat} (hkd : k + d + 1 = Y) (hlow : k + 1 < Y → pLevel α l Y m what x d) {ρ : sR} (ho : okR α ρ) (hy : sSc ρ 0 + d + 1 < 800) {p w : Nat} : ∀ (r c n : Nat) (st : Option (Nat × Nat)) (v : zV), c + r = α 0 1 + 1 → r * (1 + (if k + 1 < Y then sCst d else 0)) + 1 ≤ n → n ≤ zFU → CE v α l → RC (63 + 6 * k) v ρ → pPW v k p w → v 62 k + 1 = nI c → pST Y v st →
    ∃ n' u, n ≤ n' + (r * (1 + (if k + 1 < Y then sCst d else 0)) + 1) ∧ n' ≤ n ∧ fX4_waysToPraise_40 n 52 (nI m) (nI Y) x (nI what) (nI k) (nI (zFU - n)) v = fX4_waysToPraise_40 n' 52 (nI m) (nI Y) x (nI what) (nI k + -nI 1) (nI (zFU - n')) u ∧ pST Y u (zit (sWaysS α l m x d ρ p w) r c st) ∧ onlyS k v u := by
  intro r
  have hM := ha.1.2.1
  have zF := zFU_v
  generalize hK : (if k + 1 < Y then sCst d else 0) = K
  have head : ∀ (n c : Nat) (v : zV), n + 1 ≤ zFU → c ≤ 17 → CE v α l → v 62 k + 1 = nI c → fX4_waysToPraise_40 (n + 1) 52 (nI m) (nI Y) x (nI what) (nI k) (nI (zFU - (n + 1))) v =
      (if c ≤ α 0 1 then
          zbind (fX4_isWorthTrying 52 (nI k) (zup v 62 k (nI c))) fun r_5 v_4 =>
          if r_5 = (0 : Int32) then
            fX4_waysToPraise_40 n 52 (nI m) (nI Y) x (nI what) (nI k) (nI (zFU - n)) v_4
          else
            zbind (fX4_tryChoice 52 (nI k) (nI m) (nI Y) x v_4) fun r_7 v_6 =>
            fX4_waysToPraise_40 n 52 (nI m) (nI Y) x (nI what) r_7 (nI (zFU - n)) v_6
        else fX4_waysToPraise_40 n 52 (nI m) (nI Y) x (nI what) (nI k + -nI 1) (nI (zFU - n)) (zup v 62 k (nI c))) := by
    intro n c v hn hc17 hE h62
    have hM1 : v 3 1 = nI (α 0 1) := hE.1.1.2.1
    rw [fX4_waysToPraise_40]
    dsimp only
    rw [rf_52_7, rf_52_0, p_get (by rw [ln_62]; omega), zbind_some, h62, p_set (by rw [ln_62]; omega), zbindv_some, p_up_a v _ _ (by decide : (3 : Nat) ≠ 62), hM1]
    rw [show (-1 : Int32) = -nI 1 from rfl]
    simp (disch := omega) only [i_1000000, i_1, i_0, nI_le', nI_lt', nI_add]
    rw [if_neg (by omega : ¬ 1000000 ≤ zFU - (n + 1)), if_neg (Nat.not_lt_zero k), show zFU - (n + 1) + 1 = zFU - n by omega]
  induction r with
  | zero =>
    intro c n st v hc hn hnF hE hR hP h62 hS
    obtain ⟨n, rfl⟩ : ∃ k, n = k + 1 := ⟨n - 1, by omega⟩
    refine ⟨n, zup v 62 k (nI c), by omega, by omega, ?_, ⟨?_, ?_, hS.2.2⟩, onlyS_62 (Nat.le_refl _) _ _⟩
    · rw [head n c v hnF (by omega) hE h62, if_neg (by omega)]
    · rw [p_up_a _ _ _ (by decide)]; exact hS.1
    · rw [p_up_a _ _ _ (by decide)]; exact hS.2.1
  | succ r ih =>
    intro c n st v hc hn hnF hE hR hP h62 hS
    have hmul : (r + 1) * (1 + K) = r * (1 + K) + (1 + K) := Nat.succ_mul _ _
    obtain ⟨n, rfl⟩ : ∃ k, n = k + 1 := ⟨n - 1, by omega⟩
    rw [head n c v hnF (by omega) hE h62, if_pos (by omega)]
    have o1 : onlyS k v (zup v 62 k (nI c)) := onlyS_62 (Nat.le_refl _) _ _
    have hE1 : CE (zup v 62 k (nI c)) α l := CE_f hE o1.2.2
    have hR1 : RC (63 + 6 * k) (zup v 62 k (nI c)) ρ := RC_fr hR (fun a g1 g2 => p_up_a _ _ _ (by omega))
    have hS1 : pST Y (zup v 62 k (nI c)) st := ⟨by rw [p_up_a _ _ _ (by decide)]; exact hS.1, by rw [p_up_a _ _ _ (by decide)]; exact hS.2.1, hS.2.2⟩
    have h621 : (zup v 62 k (nI c)) 62 k = nI c := p_up_s _ _ _ _
    have hP0 : pPW (zup v 62 k (nI c)) k p w := pPW_fr _ _ _ hP o1.2.1
    have hP1 : pPW (zup v 62 k (nI c)) (k + 1) (p + if c = 0 then 0 else 1) (100 * w + c) := ⟨c, p, w, h621, by omega, hP0, rfl, rfl⟩
    have e1 : ∀ a : zV, a 62 k = nI c → a 62 k + 1 = nI (c + 1) := fun a q => by rw [q, i_1, nI_add]
    rw [p_worth ha ho hY (by omega) (by omega) hR1 hP1 h621 hS1, zbind_some]
    show ∃ n' u, _ ∧ _ ∧ _ ∧ pST Y u (zit (sWaysS α l m x d ρ p w) r (c + 1) (sWaysS α l m x d ρ p w c st)) ∧ _
    by_cases hw : sLess st (p + if c = 0 then 0 else 1) = true ∧ sOkc ρ c = true
    · rw [if_pos hw, if_neg (show ¬ nI 1 = 0 by decide)]
      obtain ⟨u, ou, u62, t1, t2, t3⟩ := p_try (l := l) (m := m) ha hl ho x hY (by omega) (by omega) hm hE1 hR1 hP1 h621 hS1
      have oU := onlyS_tr o1 ou
      have hEu := CE_f hE oU.2.2
      have hRu : RC (63 + 6 * k) u ρ := RC_fr hR (fun a g1 g2 => oU.1 a (by omega) (by omega) (by omega) (by omega) (by omega) (by omega))
      have hPu : pPW u k p w := pPW_fr _ _ _ hP oU.2.1
      by_cases hh : (sStp α l x c ρ).1 = some m
      · obtain ⟨h1, h2⟩ := t1 hh
        have es : sWaysS α l m x d ρ p w c st = some (p + (if c = 0 then 0 else 1), (100 * w + c) * 100 ^ (Y - (k + 1))) := by
          unfold sWaysS
          rw [if_pos hw, if_pos hh, show Y - (k + 1) = d by omega]
        rw [es, h1, zbind_some]
        obtain ⟨n', u', g1, g2, g3, g4, g5⟩ := ih (c + 1) n _ u (by omega) (by omega) (by omega) hEu hRu hPu (e1 u u62) h2
        exact ⟨n', u', by omega, by omega, g3, g4, onlyS_tr oU g5⟩
      · by_cases hd : k + 1 < Y
        · obtain ⟨h1, h2, h3, h4⟩ := t3 hh hd
          have es : sWaysS α l m x d ρ p w c st = sWays α l m x d (sStp α l x c ρ).2 (p + if c = 0 then 0 else 1) (100 * w + c) st := by
            unfold sWaysS
            rw [if_pos hw, if_neg hh]
          rw [if_pos hd] at hK
          have hP2 : pPW u (k + 1) (p + if c = 0 then 0 else 1) (100 * w + c) := ⟨c, p, w, u62, by omega, hPu, rfl, rfl⟩
          obtain ⟨q1, q2⟩ := okR_stp (l := l) (x := x) ha ho (by omega) c
          obtain ⟨n2, u2, f1, f2, f3, f4, f5⟩ := hlow hd (k + 1) n _ _ _ st u (by omega) (by omega) (by omega) q1 (by rw [q2]; omega) hEu h4 hP2 h3 h2
          have oU2 : onlyS k u u2 := ⟨fun a a1 => f5.1 a (by omega), fun j hj => f5.2.1 j (by omega), f5.2.2⟩
          have oU3 := onlyS_tr oU oU2
          have e62 : u2 62 k = nI c := (f5.2.1 k (by omega)).trans u62
          rw [es, h1, zbind_some, f3, nI_addg (by omega), show k + 1 - 1 = k by omega]
          obtain ⟨n', u', g1, g2, g3, g4, g5⟩ := ih (c + 1) n2 _ u2 (by omega) (by omega) (by omega) (CE_f hE oU3.2.2) (RC_fr hR (fun a g1 g2 => oU3.1 a (by omega) (by omega) (by omega) (by omega) (by omega) (by omega))) (pPW_fr _ _ _ hP oU3.2.1) (e1 u2 e62) f4
          exact ⟨n', u', by omega, by omega, g3, g4, onlyS_tr oU3 g5⟩
        · obtain ⟨h1, h2⟩ := t2 hh (by omega)
          obtain rfl : d = 0 := by omega
          have es : sWaysS α l m x 0 ρ p w c st = st := by
            unfold sWaysS
            rw [if_pos hw, if_neg hh]
            rfl
          rw [es, h1, zbind_some]
          obtain ⟨n', u', g1, g2, g3, g4, g5⟩ := ih (c + 1) n _ u (by omega) (by omega) (by omega) hEu hRu hPu (e1 u u62) h2
          exact ⟨n', u', by omega, by omega, g3, g4, onlyS_tr oU g5⟩
    · have es : sWaysS α l m x d ρ p w c st = st := by
        unfold sWaysS
        rw [if_neg hw]
      rw [es, if_neg hw, if_pos (show nI 0 = 0 from rfl)]
      obtain ⟨n', u', g1, g2, g3, g4, g5⟩ := ih (c + 1) n st _ (by omega) (by omega) (by omega) hE1 hR1 hP0 (e1 _ h621) hS1
      exact ⟨n', u', by omega, by omega, g3, g4, onlyS_tr o1 g5⟩
theorem p_level {α : sA} {l : sL} (ha : okA α) (hl : okL l) {Y m what : Nat} {x : Int32} (hY : Y ≤ 3) (hm : m < 16) : ∀ d, pLevel α l Y m what x (d + 1) := by
  intro d
  have hM := ha.1.2.1
  induction d with
  | zero =>
    intro k n ρ p w st v hk hn hnF ho hy hE hR hP h62 hS
    have e0 : sCst (0 + 1) = 324 := rfl
    have eK : (if k + 1 < Y then sCst 0 else 0) = 0 := if_neg (by omega)
    have h := p_levelL (what := what) (x := x) ha hl hY hm (d := 0) (k := k) (by omega) (fun q => by omega) ho (by omega) (p := p) (w := w) (α 0 1 + 1) 0 n st v (by omega) (by rw [eK]; omega) hnF hE hR hP (by rw [h62]; decide) hS
    rw [eK] at h
    obtain ⟨n', u, g1, g2, g3, g4, g5⟩ := h
    exact ⟨n', u, by omega, g2, g3, g4, g5⟩
  | succ d ih =>
    intro k n ρ p w st v hk hn hnF ho hy hE hR hP h62 hS
    have e0 : sCst (d + 1 + 1) = 17 * (1 + sCst (d + 1)) + 1 := rfl
    have eK : (if k + 1 < Y then sCst (d + 1) else 0) = sCst (d + 1) := if_pos (by omega)
    have hle : (α 0 1 + 1) * (1 + sCst (d + 1)) ≤ 17 * (1 + sCst (d + 1)) := Nat.mul_le_mul_right _ (by omega)
    have h := p_levelL (what := what) (x := x) ha hl hY hm (d := d + 1) (k := k) (by omega) (fun _ => ih) ho (by omega) (p := p) (w := w) (α 0 1 + 1) 0 n st v (by omega) (by rw [eK]; omega) hnF hE hR hP (by rw [h62]; decide) hS
    rw [eK] at h
    obtain ⟨n', u, g1, g2, g3, g4, g5⟩ := h
    exact ⟨n', u, by omega, g2, g3, g4, g5⟩
/-- what the question is answered with -/
def sPrAns (st : Option (Nat × Nat)) (what : Nat) : Int32 := match st with
  | none => -nI 1
  | some z => if what = 0 then nI z.1 else nI z.2
theorem sCst_le : ∀ Y, 1 ≤ Y → Y ≤ 3 → sCst Y + 1 ≤ 100000 := by
  intro Y h1 h3
  have h : ∀ Y, Y < 4 → sCst Y + 1 ≤ 100000 := by decide
  exact h Y (by omega)
theorem p_praises {v : zV} {α : sA} {l : sL} {ρ : sR} (h : CQ v α l ρ) (ho : OKs α l ρ) {m Y what : Nat} (hm : m < 16) (h1 : 1 ≤ Y) (hY : Y ≤ 3) (hwh : what < 2) (x : Int32) : ∃ w, fX4_waysToPraise 52 (nI m) (nI Y) x (nI what) v = some (sPrAns (sWays α l m x Y ρ 0 0 none) what, w) ∧ frC v w := by
  obtain ⟨ha, hl, hr, hy⟩ := ho
  have hoC := okW_C ha (ok_13 ha) hr
  have zF := zFU_v
  have hc := sCst_le Y h1 hY
  have f2 : frC v (zup (zup v 52 8 (nI (Y + 1))) 52 9 (-nI 1)) := frC_tr (frC_up 8 _ (by decide) (by decide)) (frC_up 9 _ (by decide) (by decide))
  have h2 := CQ_f h f2
  have r0 := rowAt_59 0 (by decide)
  obtain ⟨w, hw, hwr, hon⟩ := p_rowCopy (i := 63 + 6 * 0) (j := 37) r0.1 r37.1 (by decide) h2.2 hoC.1
  have f3 : frC v w := frC_tr f2 (frC_R (by decide) (by decide) hon)
  have f4 : frC v (zup w 62 0 (-nI 1)) := frC_tr f3 (frC_up 0 _ (by decide) (by decide))
  have e52 : ∀ j, (zup w 62 0 (-nI 1)) 52 j = (zup (zup v 52 8 (nI (Y + 1))) 52 9 (-nI 1)) 52 j := fun j => by rw [p_up_a _ _ _ (by decide), hon 52 (by decide)]
  have hS : pST Y (zup w 62 0 (-nI 1)) none := ⟨by rw [e52, p_up_n _ _ (Or.inr (by decide)), p_up_s]; rfl, by rw [e52, p_up_s]; rfl, fun z hz => by cases hz⟩
  obtain ⟨d, rfl⟩ : ∃ d, Y = d + 1 := ⟨Y - 1, by omega⟩
  obtain ⟨n', u, g1, g2, g3, g4, g5⟩ := p_level (what := what) (x := x) ha hl hY hm d 0 zFU ρ 0 0 none (zup w 62 0 (-nI 1)) (by omega) (by omega) (Nat.le_refl _) hr (by omega) (CE_f h.1 f4) (RC_fr hwr (fun a g1 g2 => p_up_a _ _ _ (by omega))) ⟨rfl, rfl⟩ (p_up_s _ _ _ _) hS
  refine ⟨u, ?_, frC_tr f4 g5.2.2⟩
  unfold fX4_waysToPraise
  rw [show (-1 : Int32) = -nI 1 from rfl, rf_52_7, rf_52_4, rf_52_2, ln_59]
  simp (disch := omega) only [i_0, i_1, nI_add, zlet_eq, zix_nI, nI_cl', rfa_59]
  rw [show (-nI 1 : Int32) = -nI 1 from rfl, hw, zbindv_some, p_set (by rw [ln_62]; decide), zbindv_some]
  have e00 : fX4_waysToPraise_40 zFU 52 (nI m) (nI (d + 1)) x (nI what) (nI 0) (nI 0) (zup w 62 0 (-nI 1)) = fX4_waysToPraise_40 zFU 52 (nI m) (nI (d + 1)) x (nI what) (nI 0) (nI (zFU - zFU)) (zup w 62 0 (-nI 1)) := by rw [Nat.sub_self]
  rw [e00, g3]
  obtain ⟨n1, rfl⟩ : ∃ k, n' = k + 1 := ⟨n' - 1, by omega⟩
  rw [fX4_waysToPraise_40]
  dsimp only
  rw [g4.1, g4.2.1, if_neg (by rw [i_1000000, nI_le' (by decide) (by omega)]; omega), if_pos (show nI 0 + -nI 1 < (0 : Int32) by decide)]
  have hle := g4.2.2
  generalize sWays α l m x (d + 1) ρ 0 0 none = st at hle ⊢
  cases st with
  | none =>
    show (if nI (d + 1 + 1) ≤ nI (d + 1) then _ else _) = _
    rw [if_neg (by rw [nI_le' (by omega) (by omega)]; omega)]
    rfl
  | some z =>
    have hz := hle z rfl
    show (if nI z.1 ≤ nI (d + 1) then (if nI what = 0 then some (nI z.1, u) else some (nI z.2, u)) else _) = some (if what = 0 then nI z.1 else nI z.2, u)
    rw [if_pos (by rw [nI_le' (by omega) (by omega)]; exact hz)]
    by_cases q : what = 0
    · rw [q, if_pos rfl, if_pos (show nI 0 = 0 from rfl)]
    · rw [if_neg (show ¬ nI what = 0 by rw [i_0, nI_eq' (by omega) (by decide)]; exact q), if_neg q]
end
