/-! FEED -/
section
/-- the byte of an int that a shift brings to the end -/
def byA (x : Int32) (s : Nat) : Nat := x.toBitVec.toNat / 2 ^ s % 256
theorem byA_lt (x : Int32) (s : Nat) : byA x s < 256 := Nat.mod_lt _ (by decide)
theorem by_255 : ∀ i, i < 32 → (255#32 : BitVec 32).getLsbD i = decide (i < 8) := by decide +kernel
theorem by_M (x e : Int32) (s : Nat) (he : (e.toBitVec.smod 32).toNat = s) (hs : s ≤ 24) : (x >>> e) &&& 255 = nI (byA x s) := by
  have h : ((x >>> e) &&& 255).toBitVec = (x.toBitVec.sshiftRight s) &&& 255#32 := by
    rw [← he]
    rfl
  refine Int32.toBitVec_inj.mp ?_
  rw [h]
  show _ = BitVec.ofNat 32 (byA x s)
  refine BitVec.eq_of_getLsbD_eq (fun i hi => ?_)
  rw [BitVec.getLsbD_and, by_255 i hi, BitVec.getLsbD_sshiftRight, BitVec.getLsbD_ofNat]
  unfold byA
  rw [show (256 : Nat) = 2 ^ 8 from rfl, Nat.testBit_mod_two_pow, Nat.testBit_div_two_pow]
  by_cases h8 : i < 8
  · have h1 : ¬ 32 ≤ i := by omega
    have h2 : s + i < 32 := by omega
    simp only [h8, h1, h2, hi, decide_true, decide_false, Bool.not_false, Bool.true_and, Bool.and_true, if_true]
    rw [Nat.add_comm i s]
    rfl
  · simp only [h8, decide_false, Bool.and_false, Bool.false_and]
theorem by_tab : ∀ b, b < 256 → (Int8.ofBitVec (BitVec.ofNat 8 b)).toInt32 = sgB b ∧ (sgB b).toInt8.toInt32 = sgB b := by decide +kernel
theorem by_8 (E : Int8) (b : Nat) (h : E.toBitVec.toNat = b) : E.toInt32.toInt8.toInt32 = sgB b := by
  have hb : b < 256 := by rw [← h]; exact E.toBitVec.isLt
  have hE : E = Int8.ofBitVec (BitVec.ofNat 8 b) := by
    refine Int8.toBitVec_inj.mp ?_
    show E.toBitVec = BitVec.ofNat 8 b
    refine BitVec.eq_of_toNat_eq ?_
    rw [h, BitVec.toNat_ofNat, Nat.mod_eq_of_lt hb]
  rw [hE, (by_tab b hb).1, (by_tab b hb).2]
theorem by_S (x : Int32) (s : Nat) : (BitVec.signExtend 8 (x.toBitVec >>> s)).toNat = byA x s := by
  rw [BitVec.signExtend_eq_setWidth_of_le _ (by decide), BitVec.toNat_setWidth, BitVec.toNat_ushiftRight, Nat.shiftRight_eq_div_pow]
  rfl
theorem by_24 (x : Int32) : (((((x).toUInt32 >>> (((24 : Int32)).toUInt32 &&& Int32.toUInt32 31)).toInt32).toInt8.toInt32).toInt8.toInt32) = sgB (byA x 24) := by_8 _ _ (by_S x 24)
theorem by_16 (x : Int32) : (((((x).toUInt32 >>> (((16 : Int32)).toUInt32 &&& Int32.toUInt32 31)).toInt32).toInt8.toInt32).toInt8.toInt32) = sgB (byA x 16) := by_8 _ _ (by_S x 16)
theorem by_08 (x : Int32) : (((((x).toUInt32 >>> (((8 : Int32)).toUInt32 &&& Int32.toUInt32 31)).toInt32).toInt8.toInt32).toInt8.toInt32) = sgB (byA x 8) := by_8 _ _ (by_S x 8)
theorem by_00 (x : Int32) : (((((x).toUInt32 >>> (((0 : Int32)).toUInt32 &&& Int32.toUInt32 31)).toInt32).toInt8.toInt32).toInt8.toInt32) = sgB (byA x 0) := by_8 _ _ (by_S x 0)
/-- the tape of the class, of the reference -/
def tpC (tp : List Nat) (v : zV) : Prop := v 1 1 = nI tp.length ∧ ∀ k, k < tp.length → v 2 k = sgB (tp.getD k 0)
def tpM (tp : List Nat) (v : zV) : Prop := v 116 1 = nI tp.length ∧ ∀ k, k < tp.length → v 117 k = nI (tp.getD k 0)
theorem getD_app (tp : List Nat) (b k : Nat) : (tp ++ [b]).getD k 0 = if k < tp.length then tp.getD k 0 else if k = tp.length then b else 0 := by
  rw [List.getD_eq_getElem?_getD, List.getD_eq_getElem?_getD, List.getElem?_append]
  by_cases h : k < tp.length
  · rw [if_pos h, if_pos h]
  · rw [if_neg h, if_neg h]
    by_cases e : k = tp.length
    · rw [if_pos e, e, Nat.sub_self]
      rfl
    · rw [if_neg e, List.getElem?_eq_none (by simp; omega)]
      rfl
theorem tpC_up {tp : List Nat} {v : zV} (h : tpC tp v) (b : Nat) : tpC (tp ++ [b]) (zup (zup v 2 tp.length (sgB b)) 1 1 (nI (tp.length + 1))) := by
  refine ⟨by rw [p_up_s, List.length_append]; rfl, fun k hk => ?_⟩
  rw [List.length_append] at hk
  have hk : k < tp.length + 1 := hk
  rw [p_up_a _ _ _ (by decide), p_up, getD_app]
  by_cases e : k = tp.length
  · rw [if_pos ⟨rfl, e⟩, if_neg (by omega), if_pos e]
  · rw [if_neg (fun q => e q.2), if_pos (by omega)]
    exact h.2 k (by omega)
theorem tpM_up {tp : List Nat} {v : zV} (h : tpM tp v) (b : Nat) : tpM (tp ++ [b]) (zup (zup v 117 tp.length (nI b)) 116 1 (nI (tp.length + 1))) := by
  refine ⟨by rw [p_up_s, List.length_append]; rfl, fun k hk => ?_⟩
  rw [List.length_append] at hk
  have hk : k < tp.length + 1 := hk
  rw [p_up_a _ _ _ (by decide), p_up, getD_app]
  by_cases e : k = tp.length
  · rw [if_pos ⟨rfl, e⟩, if_neg (by omega), if_pos e]
  · rw [if_neg (fun q => e q.2), if_pos (by omega)]
    exact h.2 k (by omega)
theorem l2 : zlen 2 = 600 := by decide +kernel
theorem l117 : zlen 117 = 600 := by decide +kernel
theorem rx_9 : zrf 116 9 = 117 := by decide +kernel
def frT (v w : zV) : Prop := (∀ a, a ≠ 1 → a ≠ 2 → w a = v a) ∧ ∀ k, k ≠ 1 → w 1 k = v 1 k
theorem frT_tr {v w u : zV} (h1 : frT v w) (h2 : frT w u) : frT v u := ⟨fun a g1 g2 => (h2.1 a g1 g2).trans (h1.1 a g1 g2), fun k g => (h2.2 k g).trans (h1.2 k g)⟩
theorem p_put1 {tp : List Nat} {v : zV} (h : tpC tp v) (hl : tp.length < 600) (n : Nat) (x s : Int32) (b : Nat) (hs : ¬ s < 0) (hb : (((((x).toUInt32 >>> ((s).toUInt32 &&& Int32.toUInt32 31)).toInt32).toInt8.toInt32).toInt8.toInt32) = sgB b) : ∃ w, fX8_put_3 (n + 1) 1 x s v = fX8_put_3 n 1 x (s + -8) w ∧ tpC (tp ++ [b]) w ∧ frT v w := by
  refine ⟨_, ?_, tpC_up h b, fun a g1 g2 => by rw [p_up_a _ _ _ g1, p_up_a _ _ _ g2], fun k g => by rw [p_up_n _ _ (Or.inr g), p_up_a _ _ _ (by decide)]⟩
  rw [fX8_put_3]
  dsimp only
  rw [if_neg hs, h.1, if_neg (nI_pos (by omega)), rf_1_0, l2, if_neg (show ¬ Int32.ofNat 600 ≤ nI tp.length from fun z => by have := (nI_le' (a := 600) (by omega) (by omega)).mp z; omega), zix_nI hl (by omega), nI_cl' (by omega), hb, zlet_eq, zlet_eq, p_up_a _ _ _ (show (1 : Nat) ≠ 2 by decide), h.1, show (nI tp.length + 1 : Int32) = nI (tp.length + 1) from nI_add _ 1]
theorem p_put {tp : List Nat} {v : zV} (h : tpC tp v) (hl : tp.length + 4 ≤ 600) (x : Int32) : ∃ w, fX8_put 1 x v = some w ∧ tpC (tp ++ [byA x 24] ++ [byA x 16] ++ [byA x 8] ++ [byA x 0]) w ∧ frT v w := by
  obtain ⟨w1, e1, t1, f1⟩ := p_put1 h (by omega) 99999 x 24 _ (by decide) (by_24 x)
  obtain ⟨w2, e2, t2, f2⟩ := p_put1 t1 (by rw [List.length_append]; show tp.length + 1 < 600; omega) 99998 x 16 _ (by decide) (by_16 x)
  obtain ⟨w3, e3, t3, f3⟩ := p_put1 t2 (by rw [List.length_append, List.length_append]; show tp.length + 1 + 1 < 600; omega) 99997 x 8 _ (by decide) (by_08 x)
  obtain ⟨w4, e4, t4, f4⟩ := p_put1 t3 (by rw [List.length_append, List.length_append, List.length_append]; show tp.length + 1 + 1 + 1 < 600; omega) 99996 x 0 _ (by decide) (by_00 x)
  refine ⟨w4, ?_, t4, frT_tr f1 (frT_tr f2 (frT_tr f3 f4))⟩
  unfold fX8_put
  rw [show zFU = 99999 + 1 from rfl, e1, show (24 : Int32) + -8 = 16 by decide, show 99999 = 99998 + 1 from rfl, e2, show (16 : Int32) + -8 = 8 by decide, show 99998 = 99997 + 1 from rfl, e3, show (8 : Int32) + -8 = 0 by decide, show 99997 = 99996 + 1 from rfl, e4, show 99996 = 99995 + 1 from rfl, fX8_put_3]
  dsimp only
  rw [if_pos (by decide)]
def byF (xs : Nat → Int32) (j : Nat) : Nat := byA (xs (j / 4)) (24 - 8 * (j % 4))
theorem by_sh : ∀ j, j < 20 → ((((24 : Int32) - ((8 : Int32) * (nI j - nI j / (4 : Int32) * (4 : Int32)))) &&& 31).toBitVec.smod 32).toNat = 24 - 8 * (j % 4) := by decide +kernel
theorem p_mFeedL (x1 x2 x3 x4 x5 : Int32) {xs : Nat → Int32} (h0 : xs 0 = x1) (h1 : xs 1 = x2) (h2 : xs 2 = x3) (h3 : xs 3 = x4) (h4 : xs 4 = x5) : ∀ (d n j : Nat) (tp : List Nat) (v : zV), j + d = 20 → d < n → tpM tp v → tp.length + d ≤ 600 → ∃ w, fX10_feed_23 n 116 x1 x2 x3 x4 x5 (nI j) v = some (nI (tp.length + d), w) ∧ tpM (tp ++ (List.range d).map (fun i => byF xs (j + i))) w ∧ (∀ a, a ≠ 116 → a ≠ 117 → w a = v a) ∧ ∀ k, k ≠ 1 → w 116 k = v 116 k := by
  intro d
  induction d with
  | zero =>
    intro n j tp v e hn h hl
    obtain ⟨n, rfl⟩ : ∃ k, n = k + 1 := ⟨n - 1, by omega⟩
    refine ⟨v, ?_, ?_, fun _ _ _ => rfl, fun _ _ => rfl⟩
    · rw [fX10_feed_23]
      dsimp only
      rw [if_pos (show (20 : Int32) ≤ nI j from (nI_le' (a := 20) (by omega) (by omega)).mpr (by omega)), h.1]
      rfl
    · show tpM (tp ++ []) v
      rw [List.append_nil]
      exact h
  | succ d ih =>
    intro n j tp v e hn h hl
    obtain ⟨n, rfl⟩ : ∃ k, n = k + 1 := ⟨n - 1, by omega⟩
    have hup := tpM_up h (byF xs j)
    obtain ⟨w, hw, hT, ha, hk⟩ := ih n (j + 1) (tp ++ [byF xs j]) _ (by omega) (by omega) hup (by rw [List.length_append]; show tp.length + 1 + d ≤ 600; omega)
    have K76 : ∀ x, x = xs (j / 4) → fX10_feed_76 (fX10_feed_23 n) 116 x1 x2 x3 x4 x5 (nI j) x v = some (nI (tp.length + (d + 1)), w) := fun x hx => by
      unfold fX10_feed_76
      rw [h.1, rx_9, l117, zix_nI (by omega) (by omega), nI_cl' (by omega), by_M x _ _ (by_sh j (by omega)) (by omega), hx, zlet_eq, zlet_eq, p_up_a _ _ _ (show (116 : Nat) ≠ 117 by decide), h.1, show (nI tp.length + 1 : Int32) = nI (tp.length + 1) from nI_add _ 1, show (nI j + 1 : Int32) = nI (j + 1) from nI_add _ 1]
      have hw2 := hw
      rw [List.length_append] at hw2
      have e2 : tp.length + [byF xs j].length + d = tp.length + (d + 1) := by show tp.length + 1 + d = _; omega
      rw [e2] at hw2
      exact hw2
    refine ⟨w, ?_, ?_, fun a g1 g2 => (ha a g1 g2).trans (by rw [p_up_a _ _ _ g1, p_up_a _ _ _ g2]), fun k g => (hk k g).trans (by rw [p_up_n _ _ (Or.inr g), p_up_a _ _ _ (by decide)])⟩
    · rw [fX10_feed_23]
      dsimp only
      rw [if_neg (show ¬ (20 : Int32) ≤ nI j from fun z => by have := (nI_le' (a := 20) (by omega) (by omega)).mp z; omega)]
      simp only [show ((4 : Int32) ≤ nI j) = (4 ≤ j) from nI_le' (a := 4) (by omega) (by omega), show ((8 : Int32) ≤ nI j) = (8 ≤ j) from nI_le' (a := 8) (by omega) (by omega), show ((12 : Int32) ≤ nI j) = (12 ≤ j) from nI_le' (a := 12) (by omega) (by omega), show ((16 : Int32) ≤ nI j) = (16 ≤ j) from nI_le' (a := 16) (by omega) (by omega)]
      by_cases c4 : 4 ≤ j
      · rw [if_pos c4]
        by_cases c8 : 8 ≤ j
        · rw [if_pos c8]
          by_cases c12 : 12 ≤ j
          · rw [if_pos c12]
            by_cases c16 : 16 ≤ j
            · rw [if_pos c16]
              exact K76 _ (by rw [show j / 4 = 4 by omega, h4])
            · rw [if_neg c16]
              exact K76 _ (by rw [show j / 4 = 3 by omega, h3])
          · rw [if_neg c12]
            exact K76 _ (by rw [show j / 4 = 2 by omega, h2])
        · rw [if_neg c8]
          exact K76 _ (by rw [show j / 4 = 1 by omega, h1])
      · rw [if_neg c4]
        exact K76 _ (by rw [show j / 4 = 0 by omega, h0])
    · have e3 : tp ++ (List.range (d + 1)).map (fun i => byF xs (j + i)) = tp ++ [byF xs j] ++ (List.range d).map (fun i => byF xs (j + 1 + i)) := by
        rw [List.range_succ_eq_map, List.map_cons, List.map_map, List.append_assoc]
        congr 1
        show byF xs (j + 0) :: _ = byF xs j :: _
        rw [Nat.add_zero]
        congr 1
        refine List.map_congr_left (fun i _ => ?_)
        show byF xs (j + (i + 1)) = _
        rw [show j + (i + 1) = j + 1 + i by omega]
      rw [e3]
      exact hT
theorem p_feed5 {tp : List Nat} {v : zV} (h : tpC tp v) (hl : tp.length + 20 ≤ 600) (x1 x2 x3 x4 x5 : Int32) {xs : Nat → Int32} (h0 : xs 0 = x1) (h1 : xs 1 = x2) (h2 : xs 2 = x3) (h3 : xs 3 = x4) (h4 : xs 4 = x5) : ∃ w, fX9_feed 0 x1 x2 x3 x4 x5 v = some (nI (tp.length + 20), w) ∧ tpC (tp ++ (List.range 20).map (fun i => byF xs (0 + i))) w ∧ frT v w := by
  have L : ∀ (t : List Nat) (b : Nat), (t ++ [b]).length = t.length + 1 := fun t b => by rw [List.length_append]; rfl
  obtain ⟨w1, e1, t1, f1⟩ := p_put h (by omega) x1
  obtain ⟨w2, e2, t2, f2⟩ := p_put t1 (by simp only [L]; omega) x2
  obtain ⟨w3, e3, t3, f3⟩ := p_put t2 (by simp only [L]; omega) x3
  obtain ⟨w4, e4, t4, f4⟩ := p_put t3 (by simp only [L]; omega) x4
  obtain ⟨w5, e5, t5, f5⟩ := p_put t4 (by simp only [L]; omega) x5
  refine ⟨w5, ?_, ?_, frT_tr f1 (frT_tr f2 (frT_tr f3 (frT_tr f4 f5)))⟩
  · unfold fX9_feed
    rw [rf_0_0, h.1, show (nI tp.length + 20 : Int32) = nI (tp.length + 20) from nI_add _ 20, if_pos (show nI (tp.length + 20) ≤ 600 from (nI_le' (b := 600) (by omega) (by omega)).mpr hl), e1, zbindv_some, e2, zbindv_some, e3, zbindv_some, e4, zbindv_some, e5, zbindv_some, t5.1]
    simp only [L]
  · have e : tp ++ (List.range 20).map (fun i => byF xs (0 + i)) = tp ++ [byA x1 24] ++ [byA x1 16] ++ [byA x1 8] ++ [byA x1 0] ++ [byA x2 24] ++ [byA x2 16] ++ [byA x2 8] ++ [byA x2 0] ++ [byA x3 24] ++ [byA x3 16] ++ [byA x3 8] ++ [byA x3 0] ++ [byA x4 24] ++ [byA x4 16] ++ [byA x4 8] ++ [byA x4 0] ++ [byA x5 24] ++ [byA x5 16] ++ [byA x5 8] ++ [byA x5 0] := by
      rw [← h0, ← h1, ← h2, ← h3, ← h4]
      simp only [List.append_assoc]
      rfl
    rw [e]
    exact t5
end
