/-! deaths by seeds -/
section
def nLot (s : Int32) : Nat := s.toBitVec.toNat / 65536 % 16
def sNext (s : Int32) : Int32 := s * 1103515245 + 12345
theorem lot_m (s : Int32) : (s >>> ((16 : Int32) &&& 31)) &&& (15 : Int32) = nI (nLot s) := by
  rw [pk_and _ 4 (by decide)]
  have h1 := pk_shr s ((16 : Int32) &&& 31) 16 (by decide)
  generalize s >>> ((16 : Int32) &&& 31) = t at h1 ⊢
  unfold nLot
  have a1 : t.toInt = if 2 * t.toBitVec.toNat < 2 ^ 32 then (t.toBitVec.toNat : Int) else (t.toBitVec.toNat : Int) - ((2 ^ 32 : Nat) : Int) := BitVec.toInt_eq_toNat_cond t.toBitVec
  have a2 : s.toInt = if 2 * s.toBitVec.toNat < 2 ^ 32 then (s.toBitVec.toNat : Int) else (s.toBitVec.toNat : Int) - ((2 ^ 32 : Nat) : Int) := BitVec.toInt_eq_toNat_cond s.toBitVec
  have b1 := t.toBitVec.isLt
  have b2 := s.toBitVec.isLt
  rw [Int.shiftRight_eq_div_pow] at h1
  congr 1
  split at a1 <;> split at a2 <;> omega
theorem lot_c (s : Int32) : (((s.toUInt32 >>> (((16 : Int32)).toUInt32 &&& Int32.toUInt32 31)).toInt32) &&& (32767 : Int32)) - (((s.toUInt32 >>> (((16 : Int32)).toUInt32 &&& Int32.toUInt32 31)).toInt32) &&& (32767 : Int32)) / (16 : Int32) * (16 : Int32) = nI (nLot s) := by
  have h1 := pk_ushr s 16 16 (by decide)
  rw [pk_and _ 15 (by decide), h1]
  rw [show (16 : Int32) = nI 16 from rfl, pk_rem (by have : s.toBitVec.toNat / 2 ^ 16 % 2 ^ 15 < 2 ^ 15 := Nat.mod_lt _ (by decide); omega) (by decide) (by decide)]
  unfold nLot
  congr 1
  have : s.toBitVec.toNat / 2 ^ 16 % 2 ^ 15 % 16 = s.toBitVec.toNat / 2 ^ 16 % 16 := Nat.mod_mod_of_dvd _ (by decide)
  rw [this]
/-- the seed behind so many draws -/
def sDr (s : Int32) : Nat → Int32
  | 0 => s
  | j + 1 => sNext (sDr s j)
def sHit (s : Int32) (q c : Nat) : Bool := decide (nLot (sDr s (c + 1)) < q)
/-- those whose lot is below q, from chair j on -/
def sLots (s : Int32) (q : Nat) : List Nat → Nat → List Nat
  | [], _ => []
  | m :: t, j => if sHit s q j = true then m :: sLots s q t (j + 1) else sLots s q t (j + 1)
def sFates (α : sA) (q : Nat) (s : Int32) (ρ : sR) : sR := (sLots s q (sCh ρ) 0).foldl (sKill α) ρ
theorem sLots_sub (s : Int32) (q : Nat) : ∀ (t : List Nat) (j m : Nat), m ∈ sLots s q t j → m ∈ t := by
  intro t
  induction t with
  | nil => intro j m h; exact h
  | cons x t ih =>
    intro j m h
    rw [sLots] at h
    split at h
    · rcases List.mem_cons.mp h with h | h
      · exact h ▸ List.mem_cons_self
      · exact List.mem_cons_of_mem _ (ih _ _ h)
    · exact List.mem_cons_of_mem _ (ih _ _ h)
theorem sLots_len (s : Int32) (q : Nat) : ∀ (t : List Nat) (j : Nat), (sLots s q t j).length ≤ t.length := by
  intro t
  induction t with
  | nil => intro j; exact Nat.le_refl _
  | cons x t ih =>
    intro j
    rw [sLots]
    split
    · rw [List.length_cons, List.length_cons]
      exact Nat.succ_le_succ (ih _)
    · rw [List.length_cons]
      exact Nat.le_succ_of_le (ih _)
theorem okW_kills {α : sA} {n : Nat} : ∀ (M : List Nat) (ρ : sR), okW α n ρ → (∀ m ∈ M, m < α 0 1) → okW α n (M.foldl (sKill α) ρ) ∧ sSc (M.foldl (sKill α) ρ) 0 = sSc ρ 0 := by
  intro M
  induction M with
  | nil => intro ρ h _; exact ⟨h, rfl⟩
  | cons x M ih =>
    intro ρ h hM
    rw [List.foldl_cons]
    obtain ⟨h1, h2⟩ := ih (sKill α ρ x) (okW_kill h (hM x List.mem_cons_self)) (fun m hm => hM m (List.mem_cons_of_mem _ hm))
    exact ⟨h1, h2.trans (sKill_sc α ρ x (by decide) (by decide))⟩
theorem sFates_ok {α : sA} {n : Nat} {ρ : sR} (h : okW α n ρ) (q : Nat) (s : Int32) : okW α n (sFates α q s ρ) ∧ sSc (sFates α q s ρ) 0 = sSc ρ 0 := okW_kills _ _ h (fun _ hm => okW_lt h (sLots_sub _ _ _ _ _ hm))
theorem drop_cons {l t : List Nat} {j m : Nat} (h : l.drop j = m :: t) : j < l.length ∧ l.getD j 0 = m ∧ l.drop (j + 1) = t := by
  have hk : j < l.length := by
    rcases Nat.lt_or_ge j l.length with hk | hk
    · exact hk
    · rw [List.drop_eq_nil_of_le hk] at h
      cases h
  have h2 : l.drop j = l[j] :: l.drop (j + 1) := List.drop_eq_getElem_cons hk
  rw [h2] at h
  cases h
  refine ⟨hk, ?_, rfl⟩
  rw [List.getD_eq_getElem?_getD, List.getElem?_eq_getElem hk]
  rfl
theorem drop_nil {l : List Nat} {j : Nat} (h : l.drop j = []) (hj : j ≤ l.length) : j = l.length := by
  rcases Nat.lt_or_ge j l.length with hk | hk
  · rw [List.drop_eq_getElem_cons hk] at h; cases h
  · omega
/-- the class: those that are marked die -/
theorem p_drawL2 {α : sA} (ha : okA α) {n0 : Nat} (hn0 : n0 ≤ 13) (M : List Nat) (hM13 : M.length ≤ 13) (hMm : ∀ m ∈ M, m < α 0 1) (d : Int32) : ∀ (t : List Nat) (i n : Nat) (ρ : sR) (v : zV), M.drop i = t → i ≤ M.length → t.length < n → pCA 3 v α → RC 53 v ρ → okW α n0 ρ → (∀ k, k < M.length → v 61 k = nI (M.getD k 0)) → ∃ w, fX4_drawDeaths_74 n 52 d (nI M.length) (nI i) v = some (d, w) ∧ RC 53 w (t.foldl (sKill α) ρ) ∧ onlyR 53 v w := by
  have hi : rowAt 53 := ⟨isRow_all 53 (by decide), by decide, by decide⟩
  have hMn := ha.1.2.1
  intro t
  induction t with
  | nil =>
    intro i n ρ v hd hil hn hE h ho hm
    obtain ⟨n, rfl⟩ : ∃ k, n = k + 1 := ⟨n - 1, by omega⟩
    have := drop_nil hd hil
    subst this
    refine ⟨v, ?_, h, onlyR_rf 53 v⟩
    rw [fX4_drawDeaths_74]
    dsimp only
    rw [if_pos (Int32.le_refl _)]
  | cons m t ih =>
    intro i n ρ v hd hil hn hE h ho hm
    obtain ⟨n, rfl⟩ : ∃ k, n = k + 1 := ⟨n - 1, by omega⟩
    obtain ⟨hk, hg, hd2⟩ := drop_cons hd
    have hmM : m < α 0 1 := hMm m (hg ▸ getD_mem hk)
    obtain ⟨w, hw, hwr, hon⟩ := p_kill hi ha hn0 hE h ho hmM
    rw [List.length_cons] at hn
    obtain ⟨u, hu, hur, huon⟩ := ih (i + 1) n (sKill α ρ m) w hd2 (by omega) (by omega) (CA_fr hE (fun a g1 g2 => hon a (by omega))) hwr (okW_kill ho hmM) (fun k hk => by rw [hon 61 (by omega)]; exact hm k hk)
    refine ⟨u, ?_, hur, onlyR_tr hon huon⟩
    rw [fX4_drawDeaths_74]
    dsimp only
    rw [if_neg (nI_ge hk (by omega)), rf_52_6, p_get (by rw [ln_61]; omega), zbind_some, hm i hk, hg, rf_52_1, rf_52_3, hw, zbind_some, nI_1]
    exact hu
def onlyF (v w : zV) : Prop := ∀ a, a ≠ 61 → (a < 53 ∨ 58 < a) → w a = v a
theorem p_drawL1 {α : sA} (ha : okA α) {n0 : Nat} (hn0 : n0 ≤ 13) (q : Nat) (hq : q ≤ 16) (s : Int32) (ρ : sR) (ho : okW α n0 ρ) : ∀ (t : List Nat) (j n : Nat) (L : List Nat) (v : zV), (sCh ρ).drop j = t → j ≤ (sCh ρ).length → t.length < n → pCA 3 v α → RC 53 v ρ → L.length ≤ j → (∀ m ∈ L, m < α 0 1) → (∀ k, k < L.length → v 61 k = nI (L.getD k 0)) → ∃ w, fX4_drawDeaths_8 n 52 (nI q) (sDr s j) (nI L.length) (nI j) v = some (sDr s (sCh ρ).length, w) ∧ RC 53 w ((L ++ sLots s q t j).foldl (sKill α) ρ) ∧ onlyF v w := by
  have hi : isRow 53 := isRow_all 53 (by decide)
  have hoC := okW_C ha hn0 ho
  have h13 := hoC.1
  intro t
  induction t with
  | nil =>
    intro j n L v hd hj hn hE h hLj hLm hm
    obtain ⟨n, rfl⟩ : ∃ k, n = k + 1 := ⟨n - 1, by omega⟩
    have := drop_nil hd hj
    subst this
    rw [fX4_drawDeaths_8]
    dsimp only
    rw [rf_52_3, h.1.2.1, if_pos (Int32.le_refl _), sLots, List.append_nil]
    obtain ⟨w, hw, hwr, hon⟩ := p_drawL2 ha hn0 L (by omega) hLm (sDr s (sCh ρ).length) L 0 zFU ρ v List.drop_zero (Nat.zero_le _) (by unfold zFU; omega) hE h ho hm
    exact ⟨w, hw, hwr, fun a g1 g2 => hon a g2⟩
  | cons m t ih =>
    intro j n L v hd hj hn hE h hLj hLm hm
    obtain ⟨n, rfl⟩ : ∃ k, n = k + 1 := ⟨n - 1, by omega⟩
    obtain ⟨hk, hg, hd2⟩ := drop_cons hd
    have hmM : m < α 0 1 := hg ▸ okW_lt ho (getD_mem hk)
    rw [List.length_cons] at hn
    rw [fX4_drawDeaths_8]
    dsimp only
    rw [rf_52_3, h.1.2.1, if_neg (nI_ge hk (by omega)), lot_c, sLots]
    have hlot : nLot (sDr s j * 1103515245 + 12345) < 16 := Nat.mod_lt _ (by decide)
    by_cases e : nLot (sDr s j * 1103515245 + 12345) < q
    · have hh : sHit s q j = true := decide_eq_true e
      rw [if_neg (nI_ge e (by omega)), hh, if_pos rfl, p_onChair hi h hoC hk, zbind_some, rf_52_6, p_set (by rw [ln_61]; omega), zbindv_some, nI_1, nI_1, hg]
      have hlen : (L ++ [m]).length = L.length + 1 := by rw [List.length_append]; rfl
      obtain ⟨w, hw, hwr, hon⟩ := ih (j + 1) n (L ++ [m]) (zup v 61 L.length (nI m)) hd2 (by omega) (by omega) (CA_fr hE (fun a g1 g2 => p_up_a _ _ _ (by omega))) (RC_fr h (fun a g1 g2 => p_up_a _ _ _ (by omega))) (by omega) (fun x hx => by
        rcases List.mem_append.mp hx with hx | hx
        · exact hLm x hx
        · rw [List.mem_singleton] at hx; omega) (fun k hk => by
        rw [p_up, List.getD_eq_getElem?_getD, List.getElem?_append]
        by_cases c : k = L.length
        · rw [if_pos ⟨rfl, c⟩, if_neg (by omega), c, Nat.sub_self]
          rfl
        · rw [if_neg (fun q => c q.2), if_pos (by omega), hm k (by omega), List.getD_eq_getElem?_getD])
      rw [hlen] at hw
      refine ⟨w, hw, ?_, fun a g1 g2 => (hon a g1 g2).trans (p_up_a _ _ _ g1)⟩
      rw [List.append_assoc] at hwr
      exact hwr
    · have hh : sHit s q j = false := decide_eq_false e
      rw [if_pos (nI_le (by omega) (by omega)), hh, if_neg (by decide), nI_1]
      exact ih (j + 1) n L v hd2 (by omega) (by omega) hE h (by omega) hLm hm
theorem p_draw {α : sA} (ha : okA α) {n0 : Nat} (hn0 : n0 ≤ 13) {q : Nat} (hq : q ≤ 16) (s : Int32) {ρ : sR} (ho : okW α n0 ρ) {v : zV} (hE : pCA 3 v α) (h : RC 53 v ρ) : ∃ w, fX4_drawDeaths 52 s (nI q) v = some (sDr s (sCh ρ).length, w) ∧ RC 53 w (sFates α q s ρ) ∧ onlyF v w := by
  have h13 := (okW_C ha hn0 ho).1
  unfold fX4_drawDeaths
  exact p_drawL1 ha hn0 q hq s ρ ho (sCh ρ) 0 zFU [] v List.drop_zero (Nat.zero_le _) (by unfold zFU; omega) hE h (Nat.le_refl _) (fun _ hm => by cases hm) (fun k hk => absurd hk (Nat.not_lt_zero k))
/-! the reference's fates: lots as bits -/
theorem sh31 : ∀ c, c < 31 → ((nI c &&& 31).toBitVec.smod 32).toNat = c := by decide +kernel
theorem nI_or (a b : Nat) : nI a ||| nI b = nI (a ||| b) := by
  apply Int32.toBitVec_inj.mp
  show BitVec.ofNat 32 a ||| BitVec.ofNat 32 b = BitVec.ofNat 32 (a ||| b)
  apply BitVec.eq_of_toNat_eq
  rw [BitVec.toNat_or, BitVec.toNat_ofNat, BitVec.toNat_ofNat, BitVec.toNat_ofNat, Nat.or_mod_two_pow]
theorem nI_bit {c : Nat} (h : c < 31) : (1 : Int32) <<< (nI c &&& 31) = nI (2 ^ c) := by
  have h2 : 2 ^ c < 2 ^ 32 := Nat.pow_lt_pow_right (by decide) (by omega)
  have := pk_shlN (n := 1) (nI c &&& 31) c (sh31 c h) (by rw [Nat.one_mul]; exact h2)
  rw [Nat.one_mul] at this
  exact this
theorem nI_test {B c : Nat} (hB : B < 2 ^ 31) (h : c < 31) : (nI B >>> (nI c &&& 31)) &&& (1 : Int32) = nI (B / 2 ^ c % 2) := by
  rw [pk_shrN hB _ c (sh31 c h)]
  exact pk_andN (Nat.lt_of_le_of_lt (Nat.div_le_self _ _) (by omega)) 1 (by decide)
/-- the bits of those lots below q, ahead of j -/
def sBits (s : Int32) (q : Nat) : Nat → Nat
  | 0 => 0
  | j + 1 => if sHit s q j = true then sBits s q j ||| 2 ^ j else sBits s q j
theorem sBits_lt (s : Int32) (q : Nat) : ∀ j, sBits s q j < 2 ^ j := by
  intro j
  induction j with
  | zero => exact Nat.one_pos
  | succ j ih =>
    have h2 : 2 ^ j < 2 ^ (j + 1) := Nat.pow_lt_pow_right (by decide) (by omega)
    rw [sBits]
    split
    · exact Nat.or_lt_two_pow (by omega) h2
    · omega
theorem sBits_at (s : Int32) (q : Nat) : ∀ j c, c < j → (sBits s q j / 2 ^ c % 2 = 1 ↔ sHit s q c = true) := by
  have hb : ∀ x c, (x / 2 ^ c % 2 = 1) = (Nat.testBit x c = true) := fun x c => by rw [Nat.testBit_eq_decide_div_mod_eq, decide_eq_true_eq]
  intro j
  induction j with
  | zero => intro c h; exact absurd h (Nat.not_lt_zero c)
  | succ j ih =>
    intro c hc
    rw [hb, sBits]
    by_cases e : c = j
    · subst e
      have hf : Nat.testBit (sBits s q c) c = false := Nat.testBit_lt_two_pow (sBits_lt s q c)
      by_cases hh : sHit s q c = true
      · rw [if_pos hh, Nat.testBit_or, Nat.testBit_two_pow_self, Bool.or_true]
        exact ⟨fun _ => hh, fun _ => rfl⟩
      · rw [if_neg hh, hf]
        exact ⟨fun q => (by cases q), fun q => absurd q hh⟩
    · have hi := ih c (by omega)
      rw [hb] at hi
      rw [← hi]
      split
      · rw [Nat.testBit_or, Nat.testBit_two_pow_of_ne (by omega), Bool.or_false]
      · exact Iff.rfl
/-- those that die, chair by chair -/
def sFalls (α : sA) (q : Nat) (s : Int32) (l : List Nat) (c : Nat) (ρ : sR) : sR := if sHit s q c = true then sKill α ρ (l.getD c 0) else ρ
theorem sFalls_lots (α : sA) (q : Nat) (s : Int32) (l : List Nat) : ∀ (t : List Nat) (j : Nat) (ρ : sR), l.drop j = t → zit (sFalls α q s l) t.length j ρ = (sLots s q t j).foldl (sKill α) ρ := by
  intro t
  induction t with
  | nil => intro j ρ _; rfl
  | cons m t ih =>
    intro j ρ hd
    obtain ⟨hk, hg, hd2⟩ := drop_cons hd
    rw [List.length_cons, zit, ih (j + 1) _ hd2, sLots]
    unfold sFalls
    by_cases e : sHit s q j = true
    · rw [if_pos e, if_pos e, hg]
      rfl
    · rw [if_neg e, if_neg e]
theorem p_mFates {α : sA} (ha : okA α) {r : Nat} (hr : rowM r) {n : Nat} (hn : n ≤ 13) {v : zV} {ρ : sR} (hE : pMA v α) (h : MR r v ρ) (ho : okW α n ρ) {q : Nat} (hq : q ≤ 16) (h47 : v 116 47 = nI q) (s : Int32) (h48 : v 116 48 = s) : ∃ w, fX10_fatesOf 116 r v = some w ∧ MR r w (sFates α q s ρ) ∧ w 116 48 = sDr s (sCh ρ).length ∧ onlyM r v w := by
  have hoC := okW_C ha hn ho
  have h13 := hoC.1
  have hlr := hr.1
  have hr5 := hr.2.1
  have hr576 := hr.2.2.2.2.1
  have hr116 : r ≠ 116 := by omega
  have h61 := h.1.1
  have hM := ha.1.2.1
  generalize hB : sBits s q (sCh ρ).length = B
  have hBl : B < 2 ^ 13 := by
    rw [← hB]
    exact Nat.lt_of_lt_of_le (sBits_lt s q _) (Nat.pow_le_pow_right (by decide) h13)
  have l98 : ∀ u : zV, MR r u ρ → (∀ a, a ≠ 576 → a ≠ 116 → u a = v a) → (∀ k, k ≠ 48 → u 116 k = v 116 k) → (∀ k, k < (sCh ρ).length → u 576 k = nI ((sCh ρ).getD k 0)) → u 116 48 = sDr s (sCh ρ).length → ∃ w, fX10_fatesOf_98 zFU 116 r (nI B) (nI (sCh ρ).length) 0 u = some w ∧ MR r w (sFates α q s ρ) ∧ w 116 48 = sDr s (sCh ρ).length ∧ onlyM r v w := by
    intro u hu1 hu2 hu3 hu4 hu5
    have := lpR (fun n j (_ : sR) v => fX10_fatesOf_98 n 116 r (nI B) (nI (sCh ρ).length) (nI j) v) (sFalls α q s (sCh ρ)) (sCh ρ).length (fun _ ρ1 w => MR r w ρ1 ∧ okW α n ρ1 ∧ ∀ a, a ≠ r → w a = u a) (fun ρ1 w => MR r w ρ1 ∧ ∀ a, a ≠ r → w a = u a) (fun n1 ρ1 w hK => ?_) (fun n1 j ρ1 w hj hK => ?_) (sCh ρ).length zFU 0 ρ u (Nat.zero_add _) (by unfold zFU; omega) ⟨hu1, ho, fun _ _ => rfl⟩
    · rw [sFalls_lots α q s (sCh ρ) (sCh ρ) 0 ρ List.drop_zero] at this
      obtain ⟨w, hw, hwr, hwa⟩ := this
      refine ⟨w, hw, hwr, by rw [hwa 116 (Ne.symm hr116)]; exact hu5, fun a g1 g2 g3 g4 g5 => (hwa a g1).trans (hu2 a g4 g5), fun k g1 g2 => ?_⟩
      rw [hwa 116 (Ne.symm hr116)]
      exact hu3 k g1
    · refine ⟨w, ?_, hK.1, hK.2.2⟩
      show fX10_fatesOf_98 (n1 + 1) 116 r (nI B) (nI (sCh ρ).length) (nI (sCh ρ).length) w = some w
      rw [fX10_fatesOf_98]
      dsimp only
      rw [if_pos (Int32.le_refl _)]
    · obtain ⟨hR, hoW, hwa⟩ := hK
      have hc := hu4 j hj
      have hcm : (sCh ρ).getD j 0 < α 0 1 := okW_lt ho (getD_mem hj)
      show ∃ x, fX10_fatesOf_98 (n1 + 1) 116 r (nI B) (nI (sCh ρ).length) (nI j) w = fX10_fatesOf_98 n1 116 r (nI B) (nI (sCh ρ).length) (nI (j + 1)) x ∧ _
      have hbit := sBits_at s q (sCh ρ).length j hj
      rw [hB] at hbit
      have hc2 : w 576 j = nI ((sCh ρ).getD j 0) := by rw [hwa 576 (Ne.symm hr576)]; exact hc
      rw [fX10_fatesOf_98]
      dsimp only
      rw [if_neg (nI_ge hj (by omega)), nI_test (by omega) (by omega)]
      have h2 : B / 2 ^ j % 2 < 2 := Nat.mod_lt _ (by decide)
      unfold sFalls
      by_cases e : sHit s q j = true
      · rw [if_pos (show nI (B / 2 ^ j % 2) = (1 : Int32) from congrArg nI (hbit.mpr e)), if_pos e]
        simp (disch := omega) only [↓reduceIte, i_0, i_1, i_2, i_3, i_4, i_5, i_6, i_7, i_8, i_9, i_10, i_11, i_12, i_13, i_14, i_15, i_16, i_17, i_18, i_19, i_20, i_21, i_22, i_23, i_24, i_25, i_26, i_27, i_28, i_29, i_30, i_31, i_32, i_33, i_34, i_35, i_36, i_37, i_38, i_39, i_40, i_41, i_42, i_43, i_44, i_45, i_46, i_47, i_48, i_49, i_50, i_51, i_52, i_53, i_54, i_55, i_56, i_57, i_58, i_59, i_60, i_61, i_62, i_63, i_91, i_93, i_97, i_98, i_99, i_100, i_101, i_102, i_103, i_104, i_122, i_150, i_200, i_255, i_305, i_600, i_729, i_999, i_1365, i_12345, i_32767, i_65536, i_100000, i_1000000, i_1103515245, zlet_eq, zbind_some, zbindv_some, ofN_nI, nI_add, pk_mul, nI_sub', nI_addg, gg_sub, nI_cl', zix_nI, rf_116_9, rf_116_10, rf_116_11, rf_116_12, rf_116_13, rf_116_14, rf_116_15, rf_116_16, rf_116_17, rf_116_18, rf_116_19, rf_116_20, rf_116_21, rf_116_22, rf_116_23, rf_116_24, rf_116_28, rf_116_29, rf_116_30, rf_116_31, rf_116_32, rf_116_33, rf_116_34, rf_116_35, rf_116_36, rf_116_37, rf_116_38, rf_116_39, rf_116_43, rf_116_49, rf_116_51, rf_116_54, rf_116_55, rf_116_56, rf_116_59, ln_127, ln_144, ln_161, ln_174, ln_187, ln_200, ln_213, ln_374, ln_535, ln_548, ln_561, ln_572, ln_577, ln_582, ln_117, ln_118, ln_119, ln_120, ln_121, ln_122, ln_123, ln_124, ln_125, ln_126, ln_565, ln_566, ln_567, ln_568, ln_569, ln_570, ln_571, ln_576, ln_600, ln_601, ln_602, ln_603, hc2]
        obtain ⟨x, hx, hxr, hxa⟩ := p_mDies ha hr hn (MA_fr hE ha (fun a g1 g2 => (hwa a (by omega)).trans (hu2 a (by omega) (by omega)))) hR hoW hcm
        rw [hx, zbindv_some]
        exact ⟨x, rfl, hxr, okW_kill hoW hcm, fun a g => (hxa a g).trans (hwa a g)⟩
      · rw [if_neg (show ¬ nI (B / 2 ^ j % 2) = (1 : Int32) from fun p => e (hbit.mp ((nI_eq (by omega) (by decide)).mp (show nI (B / 2 ^ j % 2) = nI 1 from p)))), if_neg e, nI_1]
        exact ⟨w, rfl, hR, hoW, hwa⟩
  have l69 : ∀ u : zV, MR r u ρ → (∀ a, a ≠ 576 → a ≠ 116 → u a = v a) → (∀ k, k ≠ 48 → u 116 k = v 116 k) → u 116 48 = sDr s (sCh ρ).length → ∃ w, fX10_fatesOf_69 zFU 116 r (nI B) (nI (sCh ρ).length) 0 u = some w ∧ MR r w (sFates α q s ρ) ∧ w 116 48 = sDr s (sCh ρ).length ∧ onlyM r v w := by
    intro u hu1 hu2 hu3 hu5
    refine lpR (σ := Unit) (fun n j _ v => fX10_fatesOf_69 n 116 r (nI B) (nI (sCh ρ).length) (nI j) v) (fun _ x => x) (sCh ρ).length (fun j _ w => MR r w ρ ∧ (∀ a, a ≠ 576 → w a = u a) ∧ ∀ k, k < j → w 576 k = nI ((sCh ρ).getD k 0)) (fun _ w => MR r w (sFates α q s ρ) ∧ w 116 48 = sDr s (sCh ρ).length ∧ onlyM r v w) (fun n1 _ w hK => ?_) (fun n1 j _ w hj hK => ?_) (sCh ρ).length zFU 0 () u (Nat.zero_add _) (by unfold zFU; omega) ⟨hu1, fun _ _ => rfl, fun k hk => absurd hk (Nat.not_lt_zero k)⟩
    · obtain ⟨hR, hwa, hw5⟩ := hK
      obtain ⟨x, hx, hx2⟩ := l98 w hR (fun a g1 g2 => (hwa a g1).trans (hu2 a g1 g2)) (fun k g => by rw [hwa 116 (by decide)]; exact hu3 k g) hw5 (by rw [hwa 116 (by decide)]; exact hu5)
      refine ⟨x, ?_, hx2⟩
      show fX10_fatesOf_69 (n1 + 1) 116 r (nI B) (nI (sCh ρ).length) (nI (sCh ρ).length) w = some x
      rw [fX10_fatesOf_69]
      dsimp only
      rw [if_pos (Int32.le_refl _)]
      exact hx
    · obtain ⟨hR, hwa, hw5⟩ := hK
      have hc := hR.2.2.2.2.1 j hj
      show ∃ x, fX10_fatesOf_69 (n1 + 1) 116 r (nI B) (nI (sCh ρ).length) (nI j) w = fX10_fatesOf_69 n1 116 r (nI B) (nI (sCh ρ).length) (nI (j + 1)) x ∧ _
      rw [fX10_fatesOf_69]
      dsimp only
      simp (disch := omega) only [↓reduceIte, i_0, i_1, i_2, i_3, i_4, i_5, i_6, i_7, i_8, i_9, i_10, i_11, i_12, i_13, i_14, i_15, i_16, i_17, i_18, i_19, i_20, i_21, i_22, i_23, i_24, i_25, i_26, i_27, i_28, i_29, i_30, i_31, i_32, i_33, i_34, i_35, i_36, i_37, i_38, i_39, i_40, i_41, i_42, i_43, i_44, i_45, i_46, i_47, i_48, i_49, i_50, i_51, i_52, i_53, i_54, i_55, i_56, i_57, i_58, i_59, i_60, i_61, i_62, i_63, i_91, i_93, i_97, i_98, i_99, i_100, i_101, i_102, i_103, i_104, i_122, i_150, i_200, i_255, i_305, i_600, i_729, i_999, i_1365, i_12345, i_32767, i_65536, i_100000, i_1000000, i_1103515245, zlet_eq, zbind_some, zbindv_some, ofN_nI, nI_add, pk_mul, nI_sub', nI_addg, gg_sub, nI_cl', zix_nI, rf_116_9, rf_116_10, rf_116_11, rf_116_12, rf_116_13, rf_116_14, rf_116_15, rf_116_16, rf_116_17, rf_116_18, rf_116_19, rf_116_20, rf_116_21, rf_116_22, rf_116_23, rf_116_24, rf_116_28, rf_116_29, rf_116_30, rf_116_31, rf_116_32, rf_116_33, rf_116_34, rf_116_35, rf_116_36, rf_116_37, rf_116_38, rf_116_39, rf_116_43, rf_116_49, rf_116_51, rf_116_54, rf_116_55, rf_116_56, rf_116_59, ln_127, ln_144, ln_161, ln_174, ln_187, ln_200, ln_213, ln_374, ln_535, ln_548, ln_561, ln_572, ln_577, ln_582, ln_117, ln_118, ln_119, ln_120, ln_121, ln_122, ln_123, ln_124, ln_125, ln_126, ln_565, ln_566, ln_567, ln_568, ln_569, ln_570, ln_571, ln_576, ln_600, ln_601, ln_602, ln_603, hlr, hc]
      rw [if_neg (nI_ge hj (by omega))]
      refine ⟨_, rfl, MR_fr hR (p_up_a _ _ _ hr576), fun a g => (p_up_a _ _ _ g).trans (hwa a g), fun k hk => ?_⟩
      rw [p_up]
      by_cases c : k = j
      · rw [if_pos ⟨rfl, c⟩, c]
      · rw [if_neg (fun q => c q.2)]
        exact hw5 k (by omega)
  unfold fX10_fatesOf
  simp (disch := omega) only [↓reduceIte, i_0, i_1, i_2, i_3, i_4, i_5, i_6, i_7, i_8, i_9, i_10, i_11, i_12, i_13, i_14, i_15, i_16, i_17, i_18, i_19, i_20, i_21, i_22, i_23, i_24, i_25, i_26, i_27, i_28, i_29, i_30, i_31, i_32, i_33, i_34, i_35, i_36, i_37, i_38, i_39, i_40, i_41, i_42, i_43, i_44, i_45, i_46, i_47, i_48, i_49, i_50, i_51, i_52, i_53, i_54, i_55, i_56, i_57, i_58, i_59, i_60, i_61, i_62, i_63, i_91, i_93, i_97, i_98, i_99, i_100, i_101, i_102, i_103, i_104, i_122, i_150, i_200, i_255, i_305, i_600, i_729, i_999, i_1365, i_12345, i_32767, i_65536, i_100000, i_1000000, i_1103515245, zlet_eq, zbind_some, zbindv_some, ofN_nI, nI_add, pk_mul, nI_sub', nI_addg, gg_sub, nI_cl', zix_nI, rf_116_9, rf_116_10, rf_116_11, rf_116_12, rf_116_13, rf_116_14, rf_116_15, rf_116_16, rf_116_17, rf_116_18, rf_116_19, rf_116_20, rf_116_21, rf_116_22, rf_116_23, rf_116_24, rf_116_28, rf_116_29, rf_116_30, rf_116_31, rf_116_32, rf_116_33, rf_116_34, rf_116_35, rf_116_36, rf_116_37, rf_116_38, rf_116_39, rf_116_43, rf_116_49, rf_116_51, rf_116_54, rf_116_55, rf_116_56, rf_116_59, ln_127, ln_144, ln_161, ln_174, ln_187, ln_200, ln_213, ln_374, ln_535, ln_548, ln_561, ln_572, ln_577, ln_582, ln_117, ln_118, ln_119, ln_120, ln_121, ln_122, ln_123, ln_124, ln_125, ln_126, ln_565, ln_566, ln_567, ln_568, ln_569, ln_570, ln_571, ln_576, ln_600, ln_601, ln_602, ln_603, hlr, h61]
  refine lpR (σ := Nat) (fun n j b v => fX10_fatesOf_10 n 116 r (nI b) (nI (sCh ρ).length) (nI j) v) (fun j b => if sHit s q j = true then b ||| 2 ^ j else b) (sCh ρ).length (fun j b w => b = sBits s q j ∧ (∀ a, a ≠ 116 → w a = v a) ∧ (∀ k, k ≠ 48 → w 116 k = v 116 k) ∧ w 116 48 = sDr s j) (fun _ w => MR r w (sFates α q s ρ) ∧ w 116 48 = sDr s (sCh ρ).length ∧ onlyM r v w) (fun n1 b w hK => ?_) (fun n1 j b w hj hK => ?_) (sCh ρ).length zFU 0 0 v (Nat.zero_add _) (by unfold zFU; omega) ⟨rfl, fun _ _ => rfl, fun _ _ => rfl, h48⟩
  · obtain ⟨hb, hwa, hwk, hw48⟩ := hK
    obtain ⟨x, hx, hx2⟩ := l69 w (MR_fr h (hwa r hr116)) (fun a _ g => hwa a g) hwk hw48
    refine ⟨x, ?_, hx2⟩
    show fX10_fatesOf_10 (n1 + 1) 116 r (nI b) (nI (sCh ρ).length) (nI (sCh ρ).length) w = some x
    rw [fX10_fatesOf_10]
    dsimp only
    rw [if_pos (Int32.le_refl _), hb, hB]
    exact hx
  · obtain ⟨hb, hwa, hwk, hw48⟩ := hK
    show ∃ x, fX10_fatesOf_10 (n1 + 1) 116 r (nI b) (nI (sCh ρ).length) (nI j) w = fX10_fatesOf_10 n1 116 r (nI _) (nI (sCh ρ).length) (nI (j + 1)) x ∧ _
    rw [fX10_fatesOf_10]
    dsimp only
    rw [if_neg (nI_ge hj (by omega)), zlet_eq, p_up_s, p_up_n _ _ (Or.inr (by decide)), hwk 47 (by decide), h47, hw48, lot_m, nI_bit (by omega), nI_1]
    have hlot : nLot (sDr s j * 1103515245 + 12345) < 16 := Nat.mod_lt _ (by decide)
    have hfin : ∀ b' : Nat, b' = sBits s q (j + 1) → b' = sBits s q (j + 1) ∧ (∀ a, a ≠ 116 → zup w 116 48 (sDr s j * 1103515245 + 12345) a = v a) ∧ (∀ k, k ≠ 48 → zup w 116 48 (sDr s j * 1103515245 + 12345) 116 k = v 116 k) ∧ zup w 116 48 (sDr s j * 1103515245 + 12345) 116 48 = sDr s (j + 1) := fun b' hb' => ⟨hb', fun a g => (p_up_a _ _ _ g).trans (hwa a g), fun k g => (p_up_n _ _ (Or.inr g)).trans (hwk k g), p_up_s _ _ _ _⟩
    by_cases e : nLot (sDr s j * 1103515245 + 12345) < q
    · have hh : sHit s q j = true := decide_eq_true e
      rw [if_neg (nI_ge e (by omega)), if_pos hh, nI_or]
      exact ⟨_, rfl, hfin _ (by rw [sBits, if_pos hh, hb])⟩
    · have hh : ¬ sHit s q j = true := by rw [show sHit s q j = false from decide_eq_false e]; decide
      rw [if_pos (nI_le (by omega) (by omega)), if_neg hh, i_0, nI_or, Nat.or_zero]
      exact ⟨_, rfl, hfin _ (by rw [sBits, if_neg hh, hb])⟩
end
