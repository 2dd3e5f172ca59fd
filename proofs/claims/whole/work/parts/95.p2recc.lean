/-! RECORDS, the class: the beginning, the book, whether all holds -/
section
theorem r88 : rowAt 88 := ⟨isRow_all 88 (by decide), by decide, by decide⟩
theorem p_open77 {i : Nat} (hi : rowAt i) {α : sA} (ha : okA α) {v0 v : zV} (hA : pCA 3 v α) (hR : RC i v ([], (fun _ => 0), (fun _ => 0), (fun _ => -1), (fun k => if k = 0 then 1 else 0), (fun _ => 0))) (hv : onlyR i v0 v) : ∃ w, fX7_open_77 zFU i 3 0 v = some w ∧ RC i w (sOpen α) ∧ onlyR i v0 w := by
  have h37 := hi.2.1
  have hS := ha.1.2.2.2.2.1
  have hC := ha.1.2.2.2.1
  have hM := ha.1.2.1
  refine lpR (σ := sR) (fun n j _ v => fX7_open_77 n i 3 (nI j) v) (fun c ρ => sSit ρ (α 3 c) 0) (α 0 3) (fun j ρ w => RC i w ρ ∧ (sCh ρ).length = j ∧ onlyR i v0 w ∧ pCA 3 w α) (fun ρ w => RC i w ρ ∧ onlyR i v0 w) (fun n1 ρ w hK => ?_) (fun n1 j ρ w hj hK => ?_) (α 0 3) zFU 0 _ v (Nat.zero_add _) (by unfold zFU; omega) ⟨hR, rfl, hv, hA⟩
  · refine ⟨w, ?_, hK.1, hK.2.2.1⟩
    show fX7_open_77 (n1 + 1) i 3 (nI (α 0 3)) w = some w
    rw [fX7_open_77]
    dsimp only
    rw [hK.2.2.2.1.2.2.2.1, if_pos (Int32.le_refl _)]
  · show ∃ u, fX7_open_77 (n1 + 1) i 3 (nI j) w = fX7_open_77 n1 i 3 (nI (j + 1)) u ∧ _
    obtain ⟨h1, h2, h3, h4⟩ := hK
    obtain ⟨u, hu, hur, huo⟩ := p_sitDown hi.1 h1 (by omega) (m := α 3 j) (by have := ha.2.2.2.1 j hj; omega) 0
    rw [fX7_open_77]
    dsimp only
    rw [h4.1.2.2.2.1, if_neg (nI_ge hj (by omega)), rf_3_10, p_get (by rw [ln_7]; omega), zbind_some, show w 7 (j) = nI (α 3 j) from h4.2.2.2.2.1 j hj, i_0, hu, zbindv_some, nI_1]
    refine ⟨u, rfl, hur, ?_, onlyR_tr h3 huo, CA_fr h4 (fun a g1 g2 => huo a (by omega))⟩
    show (sCh ρ ++ [α 3 j]).length = j + 1
    rw [List.length_append, h2]
    rfl
theorem p_open42 {i : Nat} (hi : rowAt i) {α : sA} (ha : okA α) {v0 v : zV} (hA : pCA 3 v α) (hv : onlyR i v0 v) (h0 : v i 0 = nI 1) (hz : ∀ k, 1 ≤ k → k < 8 → v i k = nI 0) : ∃ w, fX7_open_42 zFU i 3 0 v = some w ∧ RC i w (sOpen α) ∧ onlyR i v0 w := by
  have h37 := hi.2.1
  obtain ⟨-, r9, r10, r11, -, -, l2, l3, l4, -⟩ := hi.1
  refine lpR (σ := Unit) (fun n j _ v => fX7_open_42 n i 3 (nI j) v) (fun _ x => x) 16 (fun j _ w => (∀ k, k < j → w (i + 2) k = nI 0 ∧ w (i + 3) k = nI 0 ∧ w (i + 4) k = -1) ∧ w i = v i ∧ onlyR i v0 w ∧ pCA 3 w α) (fun _ w => RC i w (sOpen α) ∧ onlyR i v0 w) (fun n1 _ w hK => ?_) (fun n1 j _ w hj hK => ?_) 16 zFU 0 () v rfl (by unfold zFU; omega) ⟨fun k hk => absurd hk (Nat.not_lt_zero k), rfl, hv, hA⟩
  · show ∃ u, fX7_open_42 (n1 + 1) i 3 (nI 16) w = some u ∧ _
    obtain ⟨h1, h2, h3, h4⟩ := hK
    rw [fX7_open_42]
    dsimp only
    rw [if_pos (by decide)]
    refine p_open77 hi ha h4 ⟨⟨by rw [h2]; exact h0, by rw [h2]; exact hz 1 (by decide) (by decide), by rw [h2]; exact hz 2 (by decide) (by decide), by rw [h2]; exact hz 3 (by decide) (by decide), by rw [h2]; exact hz 4 (by decide) (by decide), by rw [h2]; exact hz 5 (by decide) (by decide), by rw [h2]; exact hz 6 (by decide) (by decide), 0, Nat.zero_le _, by rw [h2]; exact hz 7 (by decide) (by decide)⟩, fun c hc => absurd hc (Nat.not_lt_zero c), fun m hm => (h1 m hm).1, fun m hm => (h1 m hm).2.1, fun m hm _ => (h1 m hm).2.2, fun m hm => ?_⟩ h3
    rw [if_neg]
    · rfl
    · rw [h2, h0, hz 7 (by decide) (by decide)]
      decide
  · show ∃ u, fX7_open_42 (n1 + 1) i 3 (nI j) w = fX7_open_42 n1 i 3 (nI (j + 1)) u ∧ _
    obtain ⟨h1, h2, h3, h4⟩ := hK
    rw [fX7_open_42]
    dsimp only
    rw [show (16 : Int32) = nI 16 from rfl, show (1 : Int32) = nI 1 from rfl, show (0 : Int32) = nI 0 from rfl, if_neg (nI_ge hj (by decide)), r9, r10, r11, l2, l3, l4, zix_nI (by omega) (by omega), zlet_eq, zix_nI (by omega) (by omega), zlet_eq, zix_nI (by omega) (by omega), zlet_eq, nI_cl' (by omega), nI_add]
    refine ⟨_, rfl, fun k hk => ?_, ?_, ?_, ?_⟩
    · by_cases e : k = j
      · rw [e]
        refine ⟨?_, ?_, p_up_s _ _ _ _⟩
        · rw [p_up_a _ _ _ (by omega), p_up_a _ _ _ (by omega), p_up_s]
        · rw [p_up_a _ _ _ (by omega), p_up_s]
      · obtain ⟨g1, g2, g3⟩ := h1 k (by omega)
        refine ⟨?_, ?_, ?_⟩
        · rw [p_up_a _ _ _ (by omega), p_up_a _ _ _ (by omega), p_up_n _ _ (Or.inr e)]; exact g1
        · rw [p_up_a _ _ _ (by omega), p_up_n _ _ (Or.inr e), p_up_a _ _ _ (by omega)]; exact g2
        · rw [p_up_n _ _ (Or.inr e), p_up_a _ _ _ (by omega), p_up_a _ _ _ (by omega)]; exact g3
    · rw [p_up_a _ _ _ (by omega), p_up_a _ _ _ (by omega), p_up_a _ _ _ (by omega)]; exact h2
    · exact onlyR_tr (onlyR_tr (onlyR_tr h3 (onlyR_up _ _ _ (by omega) (by omega))) (onlyR_up _ _ _ (by omega) (by omega))) (onlyR_up _ _ _ (by omega) (by omega))
    · exact CA_fr h4 (fun a g1 g2 => by rw [p_up_a _ _ _ (by omega), p_up_a _ _ _ (by omega), p_up_a _ _ _ (by omega)])
theorem p_open {i : Nat} (hi : rowAt i) {α : sA} (ha : okA α) {v : zV} (hA : pCA 3 v α) : ∃ w, fX7_open i 3 v = some w ∧ RC i w (sOpen α) ∧ onlyR i v w := by
  have h37 := hi.2.1
  unfold fX7_open
  rw [show (1 : Int32) = nI 1 from rfl, show (0 : Int32) = nI 0 from rfl]
  simp only [zlet_eq]
  refine p_open42 hi ha (CA_fr hA (fun a g1 g2 => ?_)) (fun a g => ?_) ?_ (fun k k1 k8 => ?_)
  · rw [p_up_a _ _ _ (by omega), p_up_a _ _ _ (by omega), p_up_a _ _ _ (by omega), p_up_a _ _ _ (by omega), p_up_a _ _ _ (by omega), p_up_a _ _ _ (by omega), p_up_a _ _ _ (by omega), p_up_a _ _ _ (by omega)]
  · rw [p_up_a _ _ _ (by omega), p_up_a _ _ _ (by omega), p_up_a _ _ _ (by omega), p_up_a _ _ _ (by omega), p_up_a _ _ _ (by omega), p_up_a _ _ _ (by omega), p_up_a _ _ _ (by omega), p_up_a _ _ _ (by omega)]
  · rw [p_up_n _ _ (Or.inr (by decide)), p_up_n _ _ (Or.inr (by decide)), p_up_n _ _ (Or.inr (by decide)), p_up_n _ _ (Or.inr (by decide)), p_up_n _ _ (Or.inr (by decide)), p_up_n _ _ (Or.inr (by decide)), p_up_n _ _ (Or.inr (by decide)), p_up_s]
  · simp only [p_up, true_and]
    rcases (show k = 1 ∨ k = 2 ∨ k = 3 ∨ k = 4 ∨ k = 5 ∨ k = 6 ∨ k = 7 by omega) with e | e | e | e | e | e | e <;> rw [e] <;> rfl
/-! the book -/
def pCB (v : zV) (β : sB) : Prop := v 31 0 = nI β.length ∧ ∀ k, k < β.length → v 32 k = nI (bY β k) ∧ v 33 k = oI (bM β k)
theorem CB_fr {v w : zV} {β : sB} (h : pCB v β) (e : ∀ a, 31 ≤ a → a ≤ 33 → w a = v a) : pCB w β := ⟨by rw [e 31 (by decide) (by decide)]; exact h.1, fun k hk => by rw [e 32 (by decide) (by decide), e 33 (by decide) (by decide)]; exact h.2 k hk⟩
theorem sLY_zit (β : sB) (n : Nat) : zit (fun k s => max s (bY β k)) n 0 0 = sLY β n := by
  induction n with
  | zero => rfl
  | succ n ih => rw [zit_end, ih, Nat.zero_add]; rfl
theorem p_lastYear {v : zV} {α : sA} {β : sB} (h : pCB v β) (ho : okBk α β) : fX1_lastYear 31 v = some (nI (sLY β β.length), v) := by
  have hL := ho.1
  unfold fX1_lastYear
  rw [← sLY_zit]
  refine lpI (σ := Nat) (fun n j s => fX1_lastYear_4 n 31 (nI s) (nI j) v) (fun k s => max s (bY β k)) β.length (fun s => some (nI s, v)) (fun _ s => s ≤ 60) (fun n1 s _ => ?_) (fun n1 j s hj hs => ?_) β.length zFU 0 0 (Nat.zero_add _) (by unfold zFU; omega) (Nat.zero_le _)
  · show fX1_lastYear_4 (n1 + 1) 31 (nI s) (nI β.length) v = _
    rw [fX1_lastYear_4]
    dsimp only
    rw [h.1, if_pos (Int32.le_refl _)]
  · show fX1_lastYear_4 (n1 + 1) 31 (nI s) (nI j) v = fX1_lastYear_4 n1 31 (nI (max s (bY β j))) (nI (j + 1)) v ∧ max s (bY β j) ≤ 60
    have hy := (ho.2 j hj).1
    rw [fX1_lastYear_4]
    dsimp only
    rw [h.1, if_neg (nI_ge hj (by omega)), rf_31_1, p_get (by rw [ln_32]; omega), zbind_some, (h.2 j hj).1, zmax_nI (by omega) (by omega), nI_1]
    exact ⟨rfl, by omega⟩
theorem p_allowsL {v : zV} {α : sA} {β : sB} (ha : okA α) (h : pCB v β) (ho : okBk α β) {y : Nat} (hy : y < 2 ^ 31) {o : Option Nat} (hoo : ∀ m, o = some m → m < 2 ^ 31) : ∀ (d n j : Nat), j + d = β.length → d < n → fX1_allows_2 n 31 (nI y) (oI o) (nI j) v = some (if zall (bAl β y o) d j = true then nI 1 else nI 0, v) := by
  have hL := ho.1
  have hM := ha.1.2.1
  intro d
  induction d with
  | zero =>
    intro n j e hn
    obtain ⟨n, rfl⟩ : ∃ k, n = k + 1 := ⟨n - 1, by omega⟩
    obtain rfl : j = β.length := by omega
    rw [fX1_allows_2]
    dsimp only
    rw [h.1, if_pos (Int32.le_refl _), zall, if_pos rfl]
    rfl
  | succ d ih =>
    intro n j e hn
    obtain ⟨n, rfl⟩ : ∃ k, n = k + 1 := ⟨n - 1, by omega⟩
    have hj : j < β.length := by omega
    have hyj := (ho.2 j hj).1
    have hmj := (ho.2 j hj).2
    rw [fX1_allows_2]
    dsimp only
    rw [h.1, if_neg (nI_ge hj (by omega)), rf_31_1, p_get (by rw [ln_32]; omega), zbind_some, (h.2 j hj).1, rf_31_2, p_get (by rw [ln_33]; omega), zbind_some, (h.2 j hj).2, show (1 : Int32) = nI 1 from rfl, nI_add, ih n (j + 1) (by omega) (by omega), zall]
    simp (disch := omega) only [nI_eq', oI_inj (a := bM β j) (b := o) (fun m hm => by have := (ho.2 j hj).2 m hm; have := hmj m hm; omega) hoo]
    unfold bAl
    by_cases c : bY β j = y
    · rw [if_pos c, if_pos c]
      by_cases c2 : bM β j = o
      · rw [if_pos c2, if_pos (beq_iff_eq.mpr c2)]
      · rw [if_neg c2, if_neg (fun q => c2 (beq_iff_eq.mp q)), if_neg (by decide)]
        rfl
    · rw [if_neg c, if_neg c, if_pos rfl]
theorem p_allows {v : zV} {α : sA} {β : sB} (ha : okA α) (h : pCB v β) (ho : okBk α β) {y : Nat} (hy : y < 2 ^ 31) {o : Option Nat} (hoo : ∀ m, o = some m → m < 2 ^ 31) : fX1_allows 31 (nI y) (oI o) v = some (if sAl β y o = true then nI 1 else nI 0, v) := p_allowsL ha h ho hy hoo β.length zFU 0 (Nat.zero_add _) (by unfold zFU; have := ho.1; omega)
/-! whether all holds -/
theorem CB_f {v w : zV} {β : sB} (h : pCB v β) (e : frC v w) : pCB w β := CB_fr h (fun a g1 g2 => e a (by omega) (by omega) (by omega))
theorem passM_eq (α : sA) (l : sL) (mo : Option (Nat × Nat)) (ρ : sR) : sPassM α l mo h0n ρ = sSettle α l (sMore α mo (sTell α ρ)) := by
  unfold sPassM
  rw [show sHp (sMore α mo (sTell α ρ)) h0n = sMore α mo (sTell α ρ) from sHp_0 _]
/-- the records' trial in its course -/
def TD (α : sA) (l : sL) (β : sB) (w : zV) (ρ : sR) : Prop := CE w α l ∧ pCB w β ∧ RC 88 w ρ ∧ okR α ρ
theorem frC_88 {v w : zV} (h : onlyC 88 v w) : frC v w := frC_C (by decide) (by decide) h
theorem sSet_lt {α : sA} {l : sL} {ρ : sR} {m : Nat} (h : (sSettle α l ρ).1 = some m) : m < α 0 1 := (sChoose_ok h).1
theorem p_holds58 {α : sA} {l : sL} {β : sB} (ha : okA α) (hl : okL l) (hb : okBk α β) (K : Nat → Int32 → Int32 → Int32 → Int32 → zV → Option (Int32 × zV)) {u : zV} {ρ : sR} (h : TD α l β u ρ) (hyr : sSc ρ 0 < 900) (x1 x2 x3 : Int32) {y : Nat} (hy : y < 1000) : ∃ w, fX6_holds_58 K 87 x1 x2 x3 (nI y) u = (if sAl β y (sSettle α l ρ).1 = true then K 87 x1 x2 x3 (nI (y + 1)) w else some (nI 0, w)) ∧ TD α l β w (sSettle α l ρ).2 ∧ onlyC 88 u w := by
  obtain ⟨hE, hB, hR, hO⟩ := h
  have hM := ha.1.2.1
  obtain ⟨w, hw, hwr, hwo⟩ := p_settle r88 ha hl hE hR hO
  have hf : frC u w := frC_88 hwo
  have hO2 : okR α (sSettle α l ρ).2 := (okR_after ha hO hyr (o := sChoose α ρ (sScore α l ρ)) (fun m hm => sChoose_ok hm)).1
  refine ⟨w, ?_, ⟨CE_f hE hf, CB_f hB hf, hwr, hO2⟩, hwo⟩
  unfold fX6_holds_58
  rw [rf_87_2, rf_87_3, hw, zbind_some, rf_87_1, p_allows ha (CB_f hB hf) hb (by omega) (fun m hm => by have := sSet_lt hm; omega), zbind_some]
  by_cases c : sAl β y (sSettle α l ρ).1 = true
  · rw [if_pos c, if_pos c, if_neg (show ¬ nI 1 = (0 : Int32) by decide), nI_1]
  · rw [if_neg c, if_neg c, if_pos (show nI 0 = (0 : Int32) from rfl)]
    rfl
/-- a death more, as the class is told of it -/
def pMo (α : sA) (x1 x2 : Int32) (mo : Option (Nat × Nat)) : Prop := match mo with
  | none => x1 = nI 0
  | some (y, x) => x1 = nI y ∧ x2 = nI x ∧ x < α 0 1 ∧ y < 1000
theorem pMo_ok {α : sA} {x1 x2 : Int32} {mo : Option (Nat × Nat)} (h : pMo α x1 x2 mo) : okMo α mo := by
  intro y x e
  rw [e] at h
  exact h.2.2.1
theorem p_holdsL {α : sA} {l : sL} {β : sB} (ha : okA α) (hl : okL l) (hb : okBk α β) {v0 : zV} {x1 x2 : Int32} {mo : Option (Nat × Nat)} (hmo : pMo α x1 x2 mo) {L : Nat} (hL : L ≤ 60) : ∀ (d n j : Nat) (w : zV), j + d = L → d < n → TD α l β w (sYr α l mo j) → onlyC 88 v0 w → ∃ u, fX6_holds_22 n 87 x1 x2 (nI L) (nI (j + 1)) w = some (if zall (fun y => sAl β (y + 1) (sIn α l mo y)) d j = true then nI 1 else nI 0, u) ∧ onlyC 88 v0 u := by
  have hC := ok_13 ha
  intro d
  induction d with
  | zero =>
    intro n j w e hn hT hv
    obtain ⟨n, rfl⟩ : ∃ k, n = k + 1 := ⟨n - 1, by omega⟩
    obtain rfl : j = L := by omega
    refine ⟨w, ?_, hv⟩
    rw [fX6_holds_22]
    dsimp only
    rw [if_pos (nI_lt (by omega) (by omega)), zall, if_pos rfl]
    rfl
  | succ d ih =>
    intro n j w e hn hT hv
    obtain ⟨n, rfl⟩ : ∃ k, n = k + 1 := ⟨n - 1, by omega⟩
    have hok := pMo_ok hmo
    obtain ⟨hO, hY⟩ := sYr_ok l ha hok j (by omega)
    obtain ⟨hE, hB, hR, -⟩ := hT
    obtain ⟨w1, hw1, hr1, ho1⟩ := p_tell r88 ha hC hE.1 hR hO
    obtain ⟨hO1, hY1⟩ := sTell_ok ha hO
    have hf1 : frC w w1 := frC_R (i := 88) (by decide) (by decide) ho1
    have hv1 : onlyC 88 v0 w1 := onlyC_tr hv (onlyR_C ho1)
    have hT1 : TD α l β w1 (sTell α (sYr α l mo j)) := ⟨CE_f hE hf1, CB_f hB hf1, hr1, hO1⟩
    -- the death more
    have key : ∃ w2, (if nI (j + 1) = x1 then zbind (fX2_kill 50 88 x2 w1) fun _ v_2 => fX6_holds_58 (fX6_holds_22 n) 87 x1 x2 (nI L) (nI (j + 1)) v_2 else fX6_holds_58 (fX6_holds_22 n) 87 x1 x2 (nI L) (nI (j + 1)) w1) = fX6_holds_58 (fX6_holds_22 n) 87 x1 x2 (nI L) (nI (j + 1)) w2 ∧ TD α l β w2 (sMore α mo (sTell α (sYr α l mo j))) ∧ onlyC 88 v0 w2 := by
      cases mo with
      | none =>
        have hx : x1 = nI 0 := hmo
        rw [hx, if_neg (fun q => by have := (nI_eq (by omega) (by omega)).mp q; omega)]
        exact ⟨w1, rfl, hT1, hv1⟩
      | some p =>
        obtain ⟨y, x⟩ := p
        obtain ⟨hx1, hx2, hx, hy⟩ := hmo
        rw [hx1, hx2]
        by_cases c : y = j + 1
        · obtain ⟨w2, hw2, hr2, ho2⟩ := p_kill r88 ha hC hT1.1.1 hr1 hO1 hx
          have hf2 : frC w1 w2 := frC_R (i := 88) (by decide) (by decide) ho2
          rw [if_pos (show nI (j + 1) = nI y by rw [c]), hw2, zbind_some]
          refine ⟨w2, rfl, ⟨CE_f hT1.1 hf2, CB_f hT1.2.1 hf2, ?_, (okW_more hO1 hok).1⟩, onlyC_tr hv1 (onlyR_C ho2)⟩
          show RC 88 w2 (if y = sSc (sTell α (sYr α l (some (y, x)) j)) 0 then _ else _)
          rw [if_pos (by omega)]
          exact hr2
        · rw [if_neg (fun q => by have := (nI_eq (by omega) (by omega)).mp q; omega)]
          refine ⟨w1, rfl, ?_, hv1⟩
          show TD α l β w1 (if y = sSc (sTell α (sYr α l (some (y, x)) j)) 0 then _ else _)
          rw [if_neg (by omega)]
          exact hT1
    obtain ⟨w2, hw2, hT2, hv2⟩ := key
    obtain ⟨-, hY2⟩ := okW_more hO1 hok
    obtain ⟨w3, hw3, hT3, hv3⟩ := p_holds58 ha hl hb (fX6_holds_22 n) hT2 (by omega) x1 x2 (nI L) (y := j + 1) (by omega)
    rw [fX6_holds_22]
    dsimp only
    rw [if_neg (nI_nlt (by omega) (by omega)), rf_87_2, rf_87_3, hw1, zbindv_some, hw2, hw3, zall]
    have hi : (sSettle α l (sMore α mo (sTell α (sYr α l mo j)))).1 = sIn α l mo j := by
      unfold sIn
      rw [passM_eq]
    have hy2 : (sSettle α l (sMore α mo (sTell α (sYr α l mo j)))).2 = sYr α l mo (j + 1) := by
      rw [sYr, passM_eq]
    rw [hi]
    by_cases c : sAl β (j + 1) (sIn α l mo j) = true
    · rw [if_pos c, if_pos c]
      exact ih n (j + 1) w3 (by omega) (by omega) (by rw [← hy2]; exact hT3) (onlyC_tr hv2 hv3)
    · rw [if_neg c, if_neg c, if_neg (by decide)]
      exact ⟨w3, rfl, onlyC_tr hv2 hv3⟩
theorem p_holds {α : sA} {l : sL} {β : sB} (ha : okA α) (hl : okL l) (hb : okBk α β) {v : zV} (hE : CE v α l) (hB : pCB v β) {x1 x2 : Int32} {mo : Option (Nat × Nat)} (hmo : pMo α x1 x2 mo) : ∃ w, fX6_holds 87 x1 x2 v = some (if sHold α l β mo = true then nI 1 else nI 0, w) ∧ onlyC 88 v w := by
  have hL : sLY β β.length ≤ 60 := sLY_le β (fun k hk => (hb.2 k hk).1.2)
  obtain ⟨w, hw, hr, ho⟩ := p_open r88 ha hE.1
  have hf : frC v w := frC_R (i := 88) (by decide) (by decide) ho
  obtain ⟨u, hu, huf⟩ := p_holdsL ha hl hb (v0 := v) hmo hL (sLY β β.length) zFU 0 w (Nat.zero_add _) (by unfold zFU; omega) ⟨CE_f hE hf, CB_f hB hf, hr, (sOpen_ok ha).1⟩ (onlyR_C ho)
  refine ⟨u, ?_, huf⟩
  unfold fX6_holds
  rw [rf_87_1, p_lastYear hB hb, zbind_some, rf_87_3, rf_87_0, hw, zbindv_some]
  exact hu
theorem p_right53 {α : sA} {β : sB} (ha : okA α) (hb : okBk α β) {v : zV} (hB : pCB v β) (f : Nat → Option Nat) (hf : ∀ k, k < β.length → v 94 (bY β k) = oI (f (bY β k - 1))) (hf2 : ∀ k m, f k = some m → m < α 0 1) : ∀ (d n j : Nat), j + d = β.length → d < n → fX6_rightLines_53 n 87 (nI j) v = some (nI (zfar (bOk β f) d j), v) := by
  have hL := hb.1
  have hM := ha.1.2.1
  intro d
  induction d with
  | zero =>
    intro n j e hn
    obtain ⟨n, rfl⟩ : ∃ k, n = k + 1 := ⟨n - 1, by omega⟩
    obtain rfl : j = β.length := by omega
    rw [fX6_rightLines_53]
    dsimp only
    rw [rf_87_1, hB.1, if_pos (Int32.le_refl _), zfar]
  | succ d ih =>
    intro n j e hn
    obtain ⟨n, rfl⟩ : ∃ k, n = k + 1 := ⟨n - 1, by omega⟩
    have hj : j < β.length := by omega
    have hyj := (hb.2 j hj).1
    have hmj := (hb.2 j hj).2
    rw [fX6_rightLines_53]
    dsimp only
    rw [rf_87_1, hB.1, if_neg (nI_ge hj (by omega)), rf_31_1, p_get (by rw [ln_32]; omega), zbind_some, (hB.2 j hj).1, rf_87_4, p_get (by rw [ln_94]; omega), zbind_some, rf_31_2, p_get (by rw [ln_33]; omega), zbind_some, (hB.2 j hj).2, hf j hj, show (1 : Int32) = nI 1 from rfl, nI_add, ih n (j + 1) (by omega) (by omega), zfar]
    simp (disch := omega) only [oI_inj (a := f (bY β j - 1)) (b := bM β j) (fun m hm => by have := hf2 _ m hm; omega) (fun m hm => by have := hmj m hm; omega)]
    unfold bOk
    by_cases c : f (bY β j - 1) = bM β j
    · rw [if_pos c, if_pos (beq_iff_eq.mpr c)]
    · rw [if_neg c, if_neg (fun q => c (beq_iff_eq.mp q))]
theorem p_right21 {α : sA} {l : sL} {β : sB} (ha : okA α) (hl : okL l) (hb : okBk α β) {v0 : zV} : ∀ (d n j : Nat) (w : zV), j + d = sLY β β.length → d < n → TD α l β w (sYr α l none j) → frC v0 w → (∀ y, y < j → w 94 (y + 1) = oI (sIn α l none y)) → ∃ u, fX6_rightLines_21 n 87 (nI (sLY β β.length)) (nI (j + 1)) w = some (nI (sRight α l β none), u) ∧ frC v0 u := by
  have hL : sLY β β.length ≤ 60 := sLY_le β (fun k hk => (hb.2 k hk).1.2)
  have hL2 := hb.1
  intro d
  induction d with
  | zero =>
    intro n j w e hn hT hv ht
    obtain ⟨n, rfl⟩ : ∃ k, n = k + 1 := ⟨n - 1, by omega⟩
    refine ⟨w, ?_, hv⟩
    rw [fX6_rightLines_21]
    dsimp only
    rw [if_pos (nI_lt (by omega) (by omega))]
    refine p_right53 ha hb hT.2.1 (sIn α l none) (fun k hk => ?_) (fun k m hm => sIn_lt hm) β.length zFU 0 (Nat.zero_add _) (by unfold zFU; omega)
    have h1 := (hb.2 k hk).1
    have h2 := sLY_ge β β.length k hk
    have h3 := ht (bY β k - 1) (by omega)
    rw [show bY β k - 1 + 1 = bY β k by omega] at h3
    exact h3
  | succ d ih =>
    intro n j w e hn hT hv ht
    obtain ⟨n, rfl⟩ : ∃ k, n = k + 1 := ⟨n - 1, by omega⟩
    obtain ⟨hE, hB, hR, -⟩ := hT
    obtain ⟨hO, hY⟩ := sYr_ok l ha (mo := none) (fun _ _ q => by cases q) j (by omega)
    obtain ⟨w1, hw1, hr1, ho1⟩ := p_pass r88 ha hl hE hR hO
    have hf1 : frC w w1 := frC_C (i := 88) (by decide) (by decide) ho1
    obtain ⟨hO1, hY1⟩ := okR_pass (l := l) ha hO (by omega)
    have hp : sPassM α l none h0n (sYr α l none j) = sPass α l (sYr α l none j) := sPassM_0 α l _
    have hi : (sPass α l (sYr α l none j)).1 = sIn α l none j := by
      unfold sIn
      rw [hp]
    have hy2 : (sPass α l (sYr α l none j)).2 = sYr α l none (j + 1) := by
      rw [sYr, hp]
    have hf2 : frC w1 (zup w1 94 (j + 1) (oI (sIn α l none j))) := frC_up _ _ (by decide) (by decide)
    rw [fX6_rightLines_21]
    dsimp only
    rw [if_neg (nI_nlt (by omega) (by omega)), rf_87_2, rf_87_3, hw1, zbind_some, rf_87_4, p_set (by rw [ln_94]; omega), zbindv_some, show (1 : Int32) = nI 1 from rfl, nI_add, hi]
    refine ih n (j + 1) _ (by omega) (by omega) ⟨CE_f (CE_f hE hf1) hf2, CB_f (CB_f hB hf1) hf2, ?_, ?_⟩ (frC_tr (frC_tr hv hf1) hf2) (fun y hy => ?_)
    · rw [← hy2]
      exact RC_fr hr1 (fun a g1 g2 => p_up_a _ _ _ (by omega))
    · rw [← hy2]; exact hO1
    · rw [p_up]
      by_cases c : y = j
      · rw [c, if_pos ⟨rfl, rfl⟩]
      · rw [if_neg (fun q => c (by omega)), ho1 94 (by omega) (by decide) (by decide) (by decide)]
        exact ht y (by omega)
theorem p_right {α : sA} {l : sL} {β : sB} (ha : okA α) (hl : okL l) (hb : okBk α β) {v : zV} (hE : CE v α l) (hB : pCB v β) : ∃ w, fX6_rightLines 87 v = some (nI (sRight α l β none), w) ∧ frC v w := by
  obtain ⟨w, hw, hr, ho⟩ := p_open r88 ha hE.1
  have hL : sLY β β.length ≤ 60 := sLY_le β (fun k hk => (hb.2 k hk).1.2)
  have hf : frC v w := frC_R (i := 88) (by decide) (by decide) ho
  obtain ⟨u, hu, huf⟩ := p_right21 (l := l) ha hl hb (v0 := v) (sLY β β.length) zFU 0 w (Nat.zero_add _) (by unfold zFU; omega) ⟨CE_f hE hf, CB_f hB hf, hr, (sOpen_ok ha).1⟩ hf (fun y hy => absurd hy (Nat.not_lt_zero y))
  refine ⟨u, ?_, huf⟩
  unfold fX6_rightLines
  rw [rf_87_1, p_lastYear hB hb, zbind_some, rf_87_3, rf_87_0, hw, zbindv_some]
  exact hu
/-- whose death, too, would fit: bits -/
def sDeadS (α : sA) (l : sL) (β : sB) (y m : Nat) (b : Int32) : Int32 := if sHold α l β (some (y, m)) = true then b ||| (1 <<< (nI m &&& 31)) else b
def sDeadB (α : sA) (l : sL) (β : sB) (y : Nat) : Int32 := zit (sDeadS α l β y) (α 0 1) 0 (if sHold α l β none = true then nI 65536 else nI 0)
theorem p_dead18 {α : sA} {l : sL} {β : sB} (ha : okA α) (hl : okL l) (hb : okBk α β) {v0 v : zV} (hE : CE v α l) (hB : pCB v β) (hv : frC v0 v) {y : Nat} (hy : y < 1000) (b0 : Int32) : ∃ w, fX6_deathsThatFit_18 zFU 87 (nI y) b0 (nI 0) v = some (zit (sDeadS α l β y) (α 0 1) 0 b0, w) ∧ frC v0 w := by
  have hM := ha.1.2.1
  have key := lpR (σ := Int32) (fun n j s v => fX6_deathsThatFit_18 n 87 (nI y) s (nI j) v) (sDeadS α l β y) (α 0 1) (fun _ _ w => CE w α l ∧ pCB w β ∧ frC v0 w) (fun s r => ∃ w, r = (s, w) ∧ frC v0 w) (fun n1 s w hK => ?_) (fun n1 j s w hj hK => ?_) (α 0 1) zFU 0 b0 v (Nat.zero_add _) (by unfold zFU; omega) ⟨hE, hB, hv⟩
  · obtain ⟨r, hr, w, rfl, hw⟩ := key
    exact ⟨w, hr, hw⟩
  · refine ⟨(s, w), ?_, w, rfl, hK.2.2⟩
    show fX6_deathsThatFit_18 (n1 + 1) 87 (nI y) s (nI (α 0 1)) w = _
    rw [fX6_deathsThatFit_18]
    dsimp only
    rw [rf_87_0, hK.1.1.1.2.1, if_pos (Int32.le_refl _)]
  · show ∃ u, fX6_deathsThatFit_18 (n1 + 1) 87 (nI y) s (nI j) w = fX6_deathsThatFit_18 n1 87 (nI y) (sDeadS α l β y j s) (nI (j + 1)) u ∧ _
    obtain ⟨u, hu, huf⟩ := p_holds ha hl hb hK.1 hK.2.1 (x1 := nI y) (x2 := nI j) (mo := some (y, j)) ⟨rfl, rfl, hj, hy⟩
    have huf := frC_88 huf
    refine ⟨u, ?_, CE_f hK.1 huf, CB_f hK.2.1 huf, frC_tr hK.2.2 huf⟩
    rw [fX6_deathsThatFit_18]
    dsimp only
    rw [rf_87_0, hK.1.1.1.2.1, if_neg (nI_ge hj (by omega)), hu, zbind_some, nI_1]
    unfold sDeadS
    by_cases c : sHold α l β (some (y, j)) = true
    · rw [if_pos c, if_pos c, if_neg (show ¬ nI 1 = (0 : Int32) by decide)]
    · rw [if_neg c, if_neg c, if_pos (show nI 0 = (0 : Int32) from rfl)]
theorem p_dead {α : sA} {l : sL} {β : sB} (ha : okA α) (hl : okL l) (hb : okBk α β) {v : zV} (hE : CE v α l) (hB : pCB v β) {y : Nat} (hy : y < 1000) : ∃ w, fX6_deathsThatFit 87 (nI y) v = some (sDeadB α l β y, w) ∧ frC v w := by
  obtain ⟨u, hu, huf⟩ := p_holds ha hl hb hE hB (x1 := nI 0) (x2 := -1) (mo := none) rfl
  have huf := frC_88 huf
  unfold fX6_deathsThatFit sDeadB
  rw [show (0 : Int32) = nI 0 from rfl, hu, zbind_some]
  by_cases c : sHold α l β none = true
  · rw [if_pos c, if_pos c, if_neg (show ¬ nI 1 = nI 0 by decide)]
    exact p_dead18 ha hl hb (CE_f hE huf) (CB_f hB huf) huf hy _
  · rw [if_neg c, if_neg c, if_pos rfl]
    exact p_dead18 ha hl hb (CE_f hE huf) (CB_f hB huf) huf hy _
end
