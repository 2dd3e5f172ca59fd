/-! WHAT CHANGES THE STATE: years, undo, die, praise, image, restore -/
section
theorem tl_G {α α' : sA} {l l' : sL} {β β' : sB} {ρ ρb ρ' ρb' : sR} {im im' : List sR} {tp tp' : List Nat} {pl r0 r1 pl' r0' r1' : Int32} {v v1 : zV} (hs : okS α l β ρ ρb im tp) (hs' : okS α' l' β' ρ' ρb' im' tp') (hM : pIM α l β ρ ρb im tp pl r0 r1 v) {c : Option (Nat × Int32 × zV)} {m : zV → Option (Int32 × zV)} {r : Int32} {e1 e2 : Option Int32} (hc : c = some (0, r, v1)) (f1 : ∀ a, 116 ≤ a → a < 603 → v1 a = v a) (hI1 : pIC α' l' β' ρ' ρb' im' tp' pl' r0' r1' v1) (hm : ∀ v2, pIM α l β ρ ρb im tp pl r0 r1 v2 → ∃ w, m v2 = some (r, w) ∧ w 116 0 = nI 0 ∧ (∀ a, (a < 116 ∨ a = 603) → w a = v2 a) ∧ pIM α' l' β' ρ' ρb' im' tp' pl' r0' r1' w) : ∃ w, zTail (zcatch c 603 e1 e2) m = some w ∧ sInv w := by
  have hi := hs.2.2.2.2.2.2.1.1
  have hi' := hs'.2.2.2.2.2.2.1.1
  have hb := hs.2.2.1.1
  have hI2 : pIC α' l' β' ρ' ρb' im' tp' pl' r0' r1' (zup v1 603 0 r) := IC_f hi' hI1 (fun a g _ _ _ => p_up_a _ _ _ (by omega))
  have hM2 : pIM α l β ρ ρb im tp pl r0 r1 (zup v1 603 0 r) := IM_fr hs.1 hs.2.1 hb hi hM (fun a g1 g2 => (p_up_a _ _ _ (by omega)).trans (f1 a g1 g2))
  obtain ⟨w, hw, h0, hf, hMw⟩ := hm _ hM2
  have h603 : w 603 0 = r := by rw [hf 603 (Or.inr rfl), p_up_s]
  refine ⟨w, ?_, α', l', β', ρ', ρb', im', tp', pl', r0', r1', hs', IC_f hi' hI2 (fun a g _ _ _ => hf a (Or.inl g)), hMw⟩
  rw [hc]
  exact zTail_Y hw h0 h603
theorem tl_G2 {α α' : sA} {l l' : sL} {β β' : sB} {ρ ρb ρ' ρb' : sR} {im im' : List sR} {tp tp' : List Nat} {pl r0 r1 pl' r0' r1' : Int32} {v v1 : zV} (hs : okS α l β ρ ρb im tp) (hs' : okS α' l' β' ρ' ρb' im' tp') (hM : pIM α l β ρ ρb im tp pl r0 r1 v) {c : Option (Int32 × zV)} {m : zV → Option (Int32 × zV)} {r : Int32} (hc : c = some (r, v1)) (f1 : ∀ a, 116 ≤ a → a < 603 → v1 a = v a) (hI1 : pIC α' l' β' ρ' ρb' im' tp' pl' r0' r1' v1) (hm : ∀ v2, pIM α l β ρ ρb im tp pl r0 r1 v2 → ∃ w, m v2 = some (r, w) ∧ (∀ a, a < 116 → w a = v2 a) ∧ pIM α' l' β' ρ' ρb' im' tp' pl' r0' r1' w) : ∃ w, zTwo c m = some w ∧ sInv w := by
  have hi := hs.2.2.2.2.2.2.1.1
  have hi' := hs'.2.2.2.2.2.2.1.1
  have hb := hs.2.2.1.1
  have hM2 : pIM α l β ρ ρb im tp pl r0 r1 v1 := IM_fr hs.1 hs.2.1 hb hi hM f1
  obtain ⟨w, hw, hf, hMw⟩ := hm _ hM2
  refine ⟨w, ?_, α', l', β', ρ', ρb', im', tp', pl', r0', r1', hs', IC_f hi' hI1 (fun a g _ _ _ => hf a g), hMw⟩
  rw [hc]
  exact zTwo_at hw
/-- only the rows of now and of undoing differ -/
theorem IC_row {α : sA} {l : sL} {β : sB} {ρ ρb ρ' ρb' : sR} {im : List sR} {tp : List Nat} {pl r0 r1 : Int32} {v w : zV} (hi : im.length ≤ 3) (h : pIC α l β ρ ρb im tp pl r0 r1 v) (e : ∀ a, a < 116 → a ≠ 25 → a ≠ 26 → (a < 37 ∨ 48 < a) → (a < 51 ∨ 97 < a) → w a = v a) (hR : RC 37 w ρ') (hB : RC 43 w ρb') : pIC α l β ρ' ρb' im tp pl r0 r1 w := by
  obtain ⟨h1, h2, h3, h4, ⟨h5, h6⟩, ⟨h7, h8⟩, h9, h10, h11⟩ := h
  have e0 := e 0 (by decide) (by decide) (by decide) (by decide) (by decide)
  have e1 := e 1 (by decide) (by decide) (by decide) (by decide) (by decide)
  have e2 := e 2 (by decide) (by decide) (by decide) (by decide) (by decide)
  refine ⟨⟨CA_fr h1.1 (fun a g1 g2 => e a (by omega) (by omega) (by omega) (by omega) (by omega)), CL_fr h1.2 (e 23 (by decide) (by decide) (by decide) (by decide) (by decide)) (e 24 (by decide) (by decide) (by decide) (by decide) (by decide))⟩, CB_fr h2 (fun a g1 g2 => e a (by omega) (by omega) (by omega) (by omega) (by omega)), hR, hB, ⟨by rw [e0]; exact h5, fun k hk => RC_fr (h6 k hk) (fun a g1 g2 => e a (by omega) (by omega) (by omega) (by omega) (by omega))⟩, ⟨by rw [e1]; exact h7, fun k hk => by rw [e2]; exact h8 k hk⟩, by rw [e1]; exact h9, by rw [e0]; exact h10, by rw [e0]; exact h11⟩
theorem IM_row {α : sA} {l : sL} {β : sB} {ρ ρb ρ' ρb' : sR} {im : List sR} {tp : List Nat} {pl r0 r1 : Int32} {v w : zV} (ha : okA α) (hl : okL l) (hb : β.length ≤ 12) (hi : im.length ≤ 3) (h : pIM α l β ρ ρb im tp pl r0 r1 v) (e : ∀ a, 116 < a → a ≠ 565 → a ≠ 566 → a ≠ 567 → a ≠ 568 → a < 570 → w a = v a) (e2 : ∀ k, k ≠ 0 → k ≠ 41 → k ≠ 48 → k ≠ 50 → w 116 k = v 116 k) (hR : MR 567 w ρ') (hB : MR 568 w ρb') (h41 : w 116 41 = nI (sSc ρ' 0 - sSc ρb' 0)) : pIM α l β ρ' ρb' im tp pl r0 r1 w := by
  obtain ⟨h1, h2, h3, h4, h5, ⟨h44, h46, h47⟩, h6, ⟨h7, h8⟩, ⟨h9, h10⟩, h11, h12, h13⟩ := h
  have e117 := e 117 (by decide) (by decide) (by decide) (by decide) (by decide) (by decide)
  have e118 := e 118 (by decide) (by decide) (by decide) (by decide) (by decide) (by decide)
  refine ⟨⟨MA_fr h1.1 ha (fun a g1 g2 => e a (by omega) (by omega) (by omega) (by omega) (by omega) (by omega)), ML_fr h1.2 hl (e2 26 (by decide) (by decide) (by decide) (by decide)) (fun a g1 g2 => e a (by omega) (by omega) (by omega) (by omega) (by omega) (by omega))⟩, MB_fr h2 hb (e2 40 (by decide) (by decide) (by decide) (by decide)) (fun a g1 g2 => e a (by omega) (by omega) (by omega) (by omega) (by omega) (by omega)), hR, hB, MR_fr h5 (e 569 (by decide) (by decide) (by decide) (by decide) (by decide) (by decide)), ⟨(e2 44 (by decide) (by decide) (by decide) (by decide)).trans h44, (e2 46 (by decide) (by decide) (by decide) (by decide)).trans h46, (e2 47 (by decide) (by decide) (by decide) (by decide)).trans h47⟩, h41, ⟨(e2 42 (by decide) (by decide) (by decide) (by decide)).trans h7, fun k hk => MR_fr (h8 k hk) (e (562 + k) (by omega) (by omega) (by omega) (by omega) (by omega) (by omega))⟩, ⟨(e2 1 (by decide) (by decide) (by decide) (by decide)).trans h9, fun k hk => by rw [e117]; exact h10 k hk⟩, (e2 3 (by decide) (by decide) (by decide) (by decide)).trans h11, by rw [e118]; exact h12, by rw [e118]; exact h13⟩
theorem sGo_add (α : sA) (l : sL) : ∀ (a b : Nat) (ρ : sR), sGo α l (a + b) ρ = sGo α l b (sGo α l a ρ) := by
  intro a
  induction a with
  | zero => intro b ρ; rw [Nat.zero_add]; rfl
  | succ a ih => intro b ρ; rw [show a + 1 + b = (a + b) + 1 by omega, sGo, ih, sGo]
theorem r43 : rowAt 43 := ⟨isRow_all 43 (by decide), by decide, by decide⟩
theorem m568 : rowM 568 := rowM_all 568 (by decide)
theorem leY {a b : Nat} (ha : a < 2 ^ 31) (hb : b < 2 ^ 31) (h : a ≤ b) : nI a ≤ nI b := (nI_leI ha hb).mpr h
theorem leN {a b : Nat} (ha : a < 2 ^ 31) (hb : b < 2 ^ 31) (h : ¬ a ≤ b) : ¬ nI a ≤ nI b := fun z => h ((nI_leI ha hb).mp z)
/-! YEARS -/
theorem p_yearsL {α : sA} {l : sL} (ha : okA α) (hl : okL l) (N : Nat) (hN : N ≤ 60) : ∀ (d n j : Nat) (ρ : sR) (w : zV), j + d ≤ N → (j + d = N ∨ sSc ρ 0 + d = 200) → sSc ρ 0 + d ≤ 200 → d < n → CE w α l → RC 37 w ρ → okR α ρ → ∃ u, fX9_years_13 n 0 (nI N) (nI j) w = some (0, nI (sSc ρ 0 + d), u) ∧ RC 37 u (sGo α l d ρ) ∧ onlyC 37 w u := by
  intro d
  induction d with
  | zero =>
    intro n j ρ w h1 h2 h3 hn hE hR hr
    obtain ⟨n, rfl⟩ : ∃ k, n = k + 1 := ⟨n - 1, by omega⟩
    refine ⟨w, ?_, hR, onlyC_rf 37 w⟩
    rw [fX9_years_13]
    dsimp only
    rw [rf_0_7, hR.1.1]
    by_cases c : N ≤ j
    · rw [if_pos (leY (by omega) (by omega) c), Nat.add_zero]
    · rw [if_neg (leN (by omega) (by omega) c), if_pos (show (200 : Int32) ≤ nI (sSc ρ 0) from (nI_le' (a := 200) (by omega) (by omega)).mpr (by omega)), Nat.add_zero]
  | succ d ih =>
    intro n j ρ w h1 h2 h3 hn hE hR hr
    obtain ⟨n, rfl⟩ : ∃ k, n = k + 1 := ⟨n - 1, by omega⟩
    obtain ⟨t, ht, htR, hto⟩ := p_pass r37 ha hl hE hR hr
    obtain ⟨k1, k2⟩ := okR_pass (l := l) ha hr (by omega)
    obtain ⟨u, hu, huR, huo⟩ := ih n (j + 1) (sPass α l ρ).2 t (by omega) (by omega) (by omega) (by omega) (CE_C r37 hE hto) htR k1
    refine ⟨u, ?_, huR, onlyC_tr hto huo⟩
    rw [fX9_years_13]
    dsimp only
    rw [rf_0_7, hR.1.1, if_neg (leN (a := N) (b := j) (by omega) (by omega) (by omega)), if_neg (show ¬ (200 : Int32) ≤ nI (sSc ρ 0) from fun z => by have := (nI_le' (a := 200) (b := sSc ρ 0) (by omega) (by omega)).mp z; omega), rf_0_11, ht, zbind_some, show (1 : Int32) = nI 1 from rfl, nI_add, hu, k2, show sSc ρ 0 + 1 + d = sSc ρ 0 + (d + 1) by omega]
theorem p_mYearsL {α : sA} {l : sL} (ha : okA α) (hl : okL l) (N : Nat) (hN : N ≤ 60) : ∀ (d n j : Nat) (ρ : sR) (s : Nat) (w : zV), j + d ≤ N → (j + d = N ∨ sSc ρ 0 + d = 200) → sSc ρ 0 + d ≤ 200 → d < n → pME w α l → MQ0 w → MR 567 w ρ → okR α ρ → w 116 41 = nI s → ∃ u, fX10_years_33 n 116 (nI N) (nI j) w = some (nI (sSc ρ 0 + d), u) ∧ MR 567 u (sGo α l d ρ) ∧ u 116 41 = nI (s + d) ∧ (∀ a, a ≠ 567 → a ≠ 565 → a ≠ 566 → a ≠ 576 → a ≠ 116 → u a = w a) ∧ ∀ k, k ≠ 41 → k ≠ 48 → k ≠ 50 → u 116 k = w 116 k := by
  have h99 : (99 : Int32).toNatClampNeg = 99 := rfl
  intro d
  induction d with
  | zero =>
    intro n j ρ s w h1 h2 h3 hn hE h0 hR hr h41
    obtain ⟨n, rfl⟩ : ∃ k, n = k + 1 := ⟨n - 1, by omega⟩
    refine ⟨w, ?_, hR, h41, fun _ _ _ _ _ _ => rfl, fun _ _ _ _ => rfl⟩
    rw [fX10_years_33]
    dsimp only
    simp only [rf_116_35, l567, zx99, h99, hR.1.2.2.1]
    by_cases c : N ≤ j
    · rw [if_pos (leY (by omega) (by omega) c), Nat.add_zero]
    · rw [if_neg (leN (by omega) (by omega) c), if_pos (show (200 : Int32) ≤ nI (sSc ρ 0) from (nI_le' (a := 200) (by omega) (by omega)).mpr (by omega)), Nat.add_zero]
  | succ d ih =>
    intro n j ρ s w h1 h2 h3 hn hE h0 hR hr h41
    obtain ⟨n, rfl⟩ : ∃ k, n = k + 1 := ⟨n - 1, by omega⟩
    obtain ⟨t, ht, htR, -, hto⟩ := p_mGoes ha hl hE (HP_0 h0.1) (mo := none) h0.2.1 h0.2.2 m567 hR hr
    rw [sPassM_0] at htR
    obtain ⟨k1, k2⟩ := okR_pass (l := l) ha hr (by omega)
    have ea : ∀ a, a ≠ 116 → zup t 116 41 (t 116 41 + 1) a = t a := fun a g => p_up_a _ _ _ g
    have ek : ∀ k, k ≠ 41 → zup t 116 41 (t 116 41 + 1) 116 k = t 116 k := fun k g => p_up_n _ _ (Or.inr g)
    have e41 : zup t 116 41 (t 116 41 + 1) 116 41 = nI (s + 1) := by
      rw [p_up_s, hto.2 41 (by decide) (by decide), h41, show (1 : Int32) = nI 1 from rfl, nI_add]
    obtain ⟨u, hu, huR, hu41, hua, huk⟩ := ih n (j + 1) (sPass α l ρ).2 (s + 1) (zup t 116 41 (t 116 41 + 1)) (by omega) (by omega) (by omega) (by omega)
      ⟨MA_fr hE.1 ha (fun a g1 g2 => (ea a (by omega)).trans (hto.1 a (by omega) (by omega) (by omega) (by omega) (by omega))), ML_fr hE.2 hl ((ek 26 (by decide)).trans (hto.2 26 (by decide) (by decide))) (fun a g1 g2 => (ea a (by omega)).trans (hto.1 a (by omega) (by omega) (by omega) (by omega) (by omega)))⟩
      ⟨(ek 44 (by decide)).trans ((hto.2 44 (by decide) (by decide)).trans h0.1), (ek 46 (by decide)).trans ((hto.2 46 (by decide) (by decide)).trans h0.2.1), (ek 47 (by decide)).trans ((hto.2 47 (by decide) (by decide)).trans h0.2.2)⟩
      (MR_fr htR (ea 567 (by decide))) k1 e41
    refine ⟨u, ?_, huR, by rw [hu41, show s + 1 + d = s + (d + 1) by omega], fun a g1 g2 g3 g4 g5 => (hua a g1 g2 g3 g4 g5).trans ((ea a g5).trans (hto.1 a g1 g2 g3 g4 g5)), fun k g1 g2 g3 => (huk k g1 g2 g3).trans ((ek k g1).trans (hto.2 k g2 g3))⟩
    rw [fX10_years_33]
    dsimp only
    simp only [rf_116_35, l567, zx99, h99, hR.1.2.2.1]
    rw [if_neg (leN (a := N) (b := j) (by omega) (by omega) (by omega)), if_neg (show ¬ (200 : Int32) ≤ nI (sSc ρ 0) from fun z => by have := (nI_le' (a := 200) (b := sSc ρ 0) (by omega) (by omega)).mp z; omega), ht, zbindv_some, zlet_eq, show (nI j + 1 : Int32) = nI (j + 1) from nI_add j 1, hu, k2, show sSc ρ 0 + 1 + d = sSc ρ 0 + (d + 1) by omega]
/-! UNDO -/
theorem p_undoL {α : sA} {l : sL} (ha : okA α) (hl : okL l) (x : Int32) {y : Nat} (hy : y ≤ 200) : ∀ (d n : Nat) (ρ : sR) (w : zV), sSc ρ 0 + d = y → d < n → CE w α l → RC 37 w ρ → okR α ρ → ∃ u, fX9_undo_61 n 0 x (nI y) (nI (sSc ρ 0)) w = some (0, x, u) ∧ RC 37 u (sGo α l d ρ) ∧ onlyC 37 w u := by
  intro d
  induction d with
  | zero =>
    intro n ρ w h1 hn hE hR hr
    obtain ⟨n, rfl⟩ : ∃ k, n = k + 1 := ⟨n - 1, by omega⟩
    refine ⟨w, ?_, hR, onlyC_rf 37 w⟩
    rw [fX9_undo_61]
    dsimp only
    rw [if_pos (leY (a := y) (b := sSc ρ 0) (by omega) (by omega) (by omega))]
  | succ d ih =>
    intro n ρ w h1 hn hE hR hr
    obtain ⟨n, rfl⟩ : ∃ k, n = k + 1 := ⟨n - 1, by omega⟩
    obtain ⟨t, ht, htR, hto⟩ := p_pass r37 ha hl hE hR hr
    obtain ⟨k1, k2⟩ := okR_pass (l := l) ha hr (by omega)
    obtain ⟨u, hu, huR, huo⟩ := ih n (sPass α l ρ).2 t (by omega) (by omega) (CE_C r37 hE hto) htR k1
    refine ⟨u, ?_, huR, onlyC_tr hto huo⟩
    rw [fX9_undo_61]
    dsimp only
    rw [if_neg (leN (a := y) (b := sSc ρ 0) (by omega) (by omega) (by omega)), rf_0_11, rf_0_7, ht, zbind_some, show (nI (sSc ρ 0) + 1 : Int32) = nI (sSc ρ 0 + 1) from nI_add _ 1, ← k2, hu]
theorem p_mUndoL {α : sA} {l : sL} (ha : okA α) (hl : okL l) (x : Int32) {N : Nat} (hN : N ≤ 200) : ∀ (d n j : Nat) (ρ : sR) (w : zV), j + d = N → sSc ρ 0 + d ≤ 200 → d < n → pME w α l → MQ0 w → MR 567 w ρ → okR α ρ → w 116 41 = nI N → ∃ u, fX10_undo_69 n 116 x (nI j) w = some (x, u) ∧ MR 567 u (sGo α l d ρ) ∧ onlyM 567 w u := by
  intro d
  induction d with
  | zero =>
    intro n j ρ w h1 h3 hn hE h0 hR hr h41
    obtain ⟨n, rfl⟩ : ∃ k, n = k + 1 := ⟨n - 1, by omega⟩
    refine ⟨w, ?_, hR, fun _ _ _ _ _ _ => rfl, fun _ _ _ => rfl⟩
    rw [fX10_undo_69]
    dsimp only
    rw [h41, if_pos (leY (a := N) (b := j) (by omega) (by omega) (by omega))]
  | succ d ih =>
    intro n j ρ w h1 h3 hn hE h0 hR hr h41
    obtain ⟨n, rfl⟩ : ∃ k, n = k + 1 := ⟨n - 1, by omega⟩
    obtain ⟨t, ht, htR, -, hto⟩ := p_mGoes ha hl hE (HP_0 h0.1) (mo := none) h0.2.1 h0.2.2 m567 hR hr
    rw [sPassM_0] at htR
    obtain ⟨k1, k2⟩ := okR_pass (l := l) ha hr (by omega)
    obtain ⟨u, hu, huR, hua, huk⟩ := ih n (j + 1) (sPass α l ρ).2 t (by omega) (by omega) (by omega) (ME_M m567 ha hl hE hto) ⟨(hto.2 44 (by decide) (by decide)).trans h0.1, (hto.2 46 (by decide) (by decide)).trans h0.2.1, (hto.2 47 (by decide) (by decide)).trans h0.2.2⟩ htR k1 ((hto.2 41 (by decide) (by decide)).trans h41)
    refine ⟨u, ?_, huR, fun a g1 g2 g3 g4 g5 => (hua a g1 g2 g3 g4 g5).trans (hto.1 a g1 g2 g3 g4 g5), fun k g1 g2 => (huk k g1 g2).trans (hto.2 k g1 g2)⟩
    rw [fX10_undo_69]
    dsimp only
    rw [h41, if_neg (leN (a := N) (b := j) (by omega) (by omega) (by omega)), rf_116_35, ht, zbindv_some, show (nI j + 1 : Int32) = nI (j + 1) from nI_add j 1, hu]
/-- the row of now is the one to undo to -/
theorem p_mSettles {ρ : sR} {v : zV} (h : MR 567 v ρ) : ∃ w, fX10_settles 116 v = some w ∧ MR 567 w ρ ∧ MR 568 w ρ ∧ w 116 41 = nI 0 ∧ (∀ a, a ≠ 116 → a ≠ 568 → w a = v a) ∧ ∀ k, k ≠ 41 → w 116 k = v 116 k := by
  obtain ⟨u, hu, hcp, hon⟩ := p_mCopies m568 m567 (by decide) v
  have e : ∀ a, a ≠ 116 → zup u 116 41 0 a = u a := fun a g => p_up_a _ _ _ g
  refine ⟨zup u 116 41 0, ?_, MR_fr h ((e 567 (by decide)).trans (hon 567 (by decide))), MR_fr (MR_cp h hcp) (e 568 (by decide)), p_up_s _ _ _ _, fun a g1 g2 => (e a g1).trans (hon a g2), fun k g => by rw [p_up_n _ _ (Or.inr g), hon 116 (by decide)]⟩
  unfold fX10_settles
  rw [rf_116_35, rf_116_36, hu, zbindv_some, zlet_eq]
end
