/-! PHASE 2: what the functions do, in pure words. First the rows that are read and written with care -/
theorem p_len (a : Nat) : zlen a < 1000 := by
  have hall : zSH.all (fun d => decide (d.2.2.1 < 1000)) = true := by decide +kernel
  unfold zlen zsh
  rw [List.getD_eq_getElem?_getD]
  by_cases h : a < zSH.length
  · rw [List.getElem?_eq_getElem h]
    have := List.all_eq_true.mp hall _ (List.getElem_mem h)
    simpa using this
  · rw [List.getElem?_eq_none (by omega)]
    simp
theorem p_ix {β : Type} {a j : Nat} (h : j < zlen a) (k : Option β) : zix (nI j) (zlen a) k = k := by
  have hl := p_len a
  unfold zix
  rw [nI_clamp (by omega), if_neg]
  intro hc
  rcases hc with hc | hc
  · exact nI_pos (by omega) hc
  · omega
theorem p_get {a j : Nat} (h : j < zlen a) (v : zV) : fX9_get a (nI j) v = some (v a j, v) := by
  have hl := p_len a
  unfold fX9_get
  rw [if_neg (nI_pos (by omega)), if_neg (show ¬ Int32.ofNat (zlen a) ≤ nI j from nI_ge h (by omega)), p_ix h, nI_clamp (by omega)]
theorem p_get0 {a : Nat} {i : Int32} (h : i < 0 ∨ Int32.ofNat (zlen a) ≤ i) (v : zV) : fX9_get a i v = some (0, v) := by
  unfold fX9_get
  by_cases h0 : i < 0
  · rw [if_pos h0]
  · rw [if_neg h0, if_pos (h.resolve_left h0)]
theorem p_set {a j : Nat} (h : j < zlen a) (x : Int32) (v : zV) : fX9_set a (nI j) x v = some (zup v a j x) := by
  have hl := p_len a
  unfold fX9_set
  rw [if_neg (nI_pos (by omega)), if_neg (show ¬ Int32.ofNat (zlen a) ≤ nI j from nI_ge h (by omega)), p_ix h, nI_clamp (by omega)]
  rfl
theorem p_set0 {a : Nat} {i : Int32} (h : i < 0 ∨ Int32.ofNat (zlen a) ≤ i) (x : Int32) (v : zV) : fX9_set a i x v = some v := by
  unfold fX9_set
  by_cases h0 : i < 0
  · rw [if_pos h0]
  · rw [if_neg h0, if_pos (h.resolve_left h0)]
theorem p_within (x a b : Int32) (v : zV) : fX9_within x a b v = some (if a ≤ x ∧ x ≤ b then 1 else 0, v) := by
  unfold fX9_within
  by_cases h1 : x < a
  · rw [if_pos h1, if_neg (fun h => Int32.not_le.mpr h1 h.1)]
  · rw [if_neg h1]
    by_cases h2 : b < x
    · rw [if_pos h2, if_neg (fun h => Int32.not_le.mpr h2 h.2)]
    · rw [if_neg h2, if_pos ⟨Int32.not_lt.mp h1, Int32.not_lt.mp h2⟩]
theorem p_in (x a b : Int32) (v : zV) : fX10_in x a b v = some (if a ≤ x ∧ x ≤ b then 1 else 0, v) := by
  unfold fX10_in
  by_cases h1 : x < a
  · rw [if_pos h1, if_neg (fun h => Int32.not_le.mpr h1 h.1)]
  · rw [if_neg h1]
    by_cases h2 : b < x
    · rw [if_pos h2, if_neg (fun h => Int32.not_le.mpr h2 h.2)]
    · rw [if_neg h2, if_pos ⟨Int32.not_lt.mp h1, Int32.not_lt.mp h2⟩]
/-! what is read behind a write -/
theorem p_up (v : zV) (i k : Nat) (x : Int32) (a j : Nat) : zup v i k x a j = if a = i ∧ j = k then x else v a j := by
  unfold zup
  by_cases h1 : a = i
  · by_cases h2 : j = k <;> simp [h1, h2]
  · simp [h1]
theorem p_up_s (v : zV) (i k : Nat) (x : Int32) : zup v i k x i k = x := by simp [zup]
theorem p_up_n (v : zV) {i k a j : Nat} (x : Int32) (h : a ≠ i ∨ j ≠ k) : zup v i k x a j = v a j := by
  rw [p_up, if_neg]
  rintro ⟨rfl, rfl⟩
  rcases h with h | h <;> exact h rfl
theorem p_up_a (v : zV) {i a : Nat} (k : Nat) (x : Int32) (h : a ≠ i) : zup v i k x a = v a := zup_ne v i k x a h
/-! the shape, by numbers -/
theorem rf_0_0 : zrf 0 0 = 1 := by decide +kernel
theorem rf_0_1 : zrf 0 1 = 3 := by decide +kernel
theorem rf_0_2 : zrf 0 2 = 13 := by decide +kernel
theorem rf_0_3 : zrf 0 3 = 23 := by decide +kernel
theorem rf_0_4 : zrf 0 4 = 27 := by decide +kernel
theorem rf_0_5 : zrf 0 5 = 31 := by decide +kernel
theorem rf_0_6 : zrf 0 6 = 34 := by decide +kernel
theorem rf_0_7 : zrf 0 7 = 37 := by decide +kernel
theorem rf_0_8 : zrf 0 8 = 43 := by decide +kernel
theorem rf_0_9 : zrf 0 9 = 49 := by decide +kernel
theorem rf_0_11 : zrf 0 11 = 50 := by decide +kernel
theorem rf_0_12 : zrf 0 12 = 52 := by decide +kernel
theorem rf_0_13 : zrf 0 13 = 87 := by decide +kernel
theorem rf_0_14 : zrf 0 14 = 96 := by decide +kernel
theorem rf_1_0 : zrf 1 0 = 2 := by decide +kernel
theorem rf_3_7 : zrf 3 7 = 4 := by decide +kernel
theorem rf_3_8 : zrf 3 8 = 5 := by decide +kernel
theorem rf_3_9 : zrf 3 9 = 6 := by decide +kernel
theorem rf_3_10 : zrf 3 10 = 7 := by decide +kernel
theorem rf_3_11 : zrf 3 11 = 8 := by decide +kernel
theorem rf_3_12 : zrf 3 12 = 9 := by decide +kernel
theorem rf_3_13 : zrf 3 13 = 10 := by decide +kernel
theorem rf_3_14 : zrf 3 14 = 11 := by decide +kernel
theorem rf_3_15 : zrf 3 15 = 12 := by decide +kernel
theorem rf_13_7 : zrf 13 7 = 14 := by decide +kernel
theorem rf_13_8 : zrf 13 8 = 15 := by decide +kernel
theorem rf_13_9 : zrf 13 9 = 16 := by decide +kernel
theorem rf_13_10 : zrf 13 10 = 17 := by decide +kernel
theorem rf_13_11 : zrf 13 11 = 18 := by decide +kernel
theorem rf_13_12 : zrf 13 12 = 19 := by decide +kernel
theorem rf_13_13 : zrf 13 13 = 20 := by decide +kernel
theorem rf_13_14 : zrf 13 14 = 21 := by decide +kernel
theorem rf_13_15 : zrf 13 15 = 22 := by decide +kernel
theorem rf_23_0 : zrf 23 0 = 24 := by decide +kernel
theorem rf_23_1 : zrf 23 1 = 25 := by decide +kernel
theorem rf_23_2 : zrf 23 2 = 26 := by decide +kernel
theorem rf_27_0 : zrf 27 0 = 28 := by decide +kernel
theorem rf_27_1 : zrf 27 1 = 29 := by decide +kernel
theorem rf_27_2 : zrf 27 2 = 30 := by decide +kernel
theorem rf_31_1 : zrf 31 1 = 32 := by decide +kernel
theorem rf_31_2 : zrf 31 2 = 33 := by decide +kernel
theorem rf_34_1 : zrf 34 1 = 35 := by decide +kernel
theorem rf_34_2 : zrf 34 2 = 36 := by decide +kernel
theorem rf_37_8 : zrf 37 8 = 38 := by decide +kernel
theorem rf_37_9 : zrf 37 9 = 39 := by decide +kernel
theorem rf_37_10 : zrf 37 10 = 40 := by decide +kernel
theorem rf_37_11 : zrf 37 11 = 41 := by decide +kernel
theorem rf_37_12 : zrf 37 12 = 42 := by decide +kernel
theorem rf_43_8 : zrf 43 8 = 44 := by decide +kernel
theorem rf_43_9 : zrf 43 9 = 45 := by decide +kernel
theorem rf_43_10 : zrf 43 10 = 46 := by decide +kernel
theorem rf_43_11 : zrf 43 11 = 47 := by decide +kernel
theorem rf_43_12 : zrf 43 12 = 48 := by decide +kernel
theorem rf_50_0 : zrf 50 0 = 3 := by decide +kernel
theorem rf_50_1 : zrf 50 1 = 23 := by decide +kernel
theorem rf_50_2 : zrf 50 2 = 51 := by decide +kernel
theorem rf_52_0 : zrf 52 0 = 3 := by decide +kernel
theorem rf_52_1 : zrf 52 1 = 50 := by decide +kernel
theorem rf_52_2 : zrf 52 2 = 37 := by decide +kernel
theorem rf_52_3 : zrf 52 3 = 53 := by decide +kernel
theorem rf_52_4 : zrf 52 4 = 59 := by decide +kernel
theorem rf_52_5 : zrf 52 5 = 60 := by decide +kernel
theorem rf_52_6 : zrf 52 6 = 61 := by decide +kernel
theorem rf_52_7 : zrf 52 7 = 62 := by decide +kernel
theorem rf_53_8 : zrf 53 8 = 54 := by decide +kernel
theorem rf_53_9 : zrf 53 9 = 55 := by decide +kernel
theorem rf_53_10 : zrf 53 10 = 56 := by decide +kernel
theorem rf_53_11 : zrf 53 11 = 57 := by decide +kernel
theorem rf_53_12 : zrf 53 12 = 58 := by decide +kernel
theorem rf_63_8 : zrf 63 8 = 64 := by decide +kernel
theorem rf_63_9 : zrf 63 9 = 65 := by decide +kernel
theorem rf_63_10 : zrf 63 10 = 66 := by decide +kernel
theorem rf_63_11 : zrf 63 11 = 67 := by decide +kernel
theorem rf_63_12 : zrf 63 12 = 68 := by decide +kernel
theorem rf_69_8 : zrf 69 8 = 70 := by decide +kernel
theorem rf_69_9 : zrf 69 9 = 71 := by decide +kernel
theorem rf_69_10 : zrf 69 10 = 72 := by decide +kernel
theorem rf_69_11 : zrf 69 11 = 73 := by decide +kernel
theorem rf_69_12 : zrf 69 12 = 74 := by decide +kernel
theorem rf_75_8 : zrf 75 8 = 76 := by decide +kernel
theorem rf_75_9 : zrf 75 9 = 77 := by decide +kernel
theorem rf_75_10 : zrf 75 10 = 78 := by decide +kernel
theorem rf_75_11 : zrf 75 11 = 79 := by decide +kernel
theorem rf_75_12 : zrf 75 12 = 80 := by decide +kernel
theorem rf_81_8 : zrf 81 8 = 82 := by decide +kernel
theorem rf_81_9 : zrf 81 9 = 83 := by decide +kernel
theorem rf_81_10 : zrf 81 10 = 84 := by decide +kernel
theorem rf_81_11 : zrf 81 11 = 85 := by decide +kernel
theorem rf_81_12 : zrf 81 12 = 86 := by decide +kernel
theorem rf_87_0 : zrf 87 0 = 3 := by decide +kernel
theorem rf_87_1 : zrf 87 1 = 31 := by decide +kernel
theorem rf_87_2 : zrf 87 2 = 50 := by decide +kernel
theorem rf_87_3 : zrf 87 3 = 88 := by decide +kernel
theorem rf_87_4 : zrf 87 4 = 94 := by decide +kernel
theorem rf_87_5 : zrf 87 5 = 95 := by decide +kernel
theorem rf_88_8 : zrf 88 8 = 89 := by decide +kernel
theorem rf_88_9 : zrf 88 9 = 90 := by decide +kernel
theorem rf_88_10 : zrf 88 10 = 91 := by decide +kernel
theorem rf_88_11 : zrf 88 11 = 92 := by decide +kernel
theorem rf_88_12 : zrf 88 12 = 93 := by decide +kernel
theorem rf_96_0 : zrf 96 0 = 3 := by decide +kernel
theorem rf_96_1 : zrf 96 1 = 37 := by decide +kernel
theorem rf_96_2 : zrf 96 2 = 97 := by decide +kernel
theorem rf_98_8 : zrf 98 8 = 99 := by decide +kernel
theorem rf_98_9 : zrf 98 9 = 100 := by decide +kernel
theorem rf_98_10 : zrf 98 10 = 101 := by decide +kernel
theorem rf_98_11 : zrf 98 11 = 102 := by decide +kernel
theorem rf_98_12 : zrf 98 12 = 103 := by decide +kernel
theorem rf_104_8 : zrf 104 8 = 105 := by decide +kernel
theorem rf_104_9 : zrf 104 9 = 106 := by decide +kernel
theorem rf_104_10 : zrf 104 10 = 107 := by decide +kernel
theorem rf_104_11 : zrf 104 11 = 108 := by decide +kernel
theorem rf_104_12 : zrf 104 12 = 109 := by decide +kernel
theorem rf_110_8 : zrf 110 8 = 111 := by decide +kernel
theorem rf_110_9 : zrf 110 9 = 112 := by decide +kernel
theorem rf_110_10 : zrf 110 10 = 113 := by decide +kernel
theorem rf_110_11 : zrf 110 11 = 114 := by decide +kernel
theorem rf_110_12 : zrf 110 12 = 115 := by decide +kernel
theorem rf_116_9 : zrf 116 9 = 117 := by decide +kernel
theorem rf_116_10 : zrf 116 10 = 118 := by decide +kernel
theorem rf_116_11 : zrf 116 11 = 119 := by decide +kernel
theorem rf_116_12 : zrf 116 12 = 120 := by decide +kernel
theorem rf_116_13 : zrf 116 13 = 121 := by decide +kernel
theorem rf_116_14 : zrf 116 14 = 122 := by decide +kernel
theorem rf_116_15 : zrf 116 15 = 123 := by decide +kernel
theorem rf_116_16 : zrf 116 16 = 124 := by decide +kernel
theorem rf_116_17 : zrf 116 17 = 125 := by decide +kernel
theorem rf_116_18 : zrf 116 18 = 126 := by decide +kernel
theorem rf_116_19 : zrf 116 19 = 127 := by decide +kernel
theorem rf_116_20 : zrf 116 20 = 144 := by decide +kernel
theorem rf_116_21 : zrf 116 21 = 161 := by decide +kernel
theorem rf_116_22 : zrf 116 22 = 174 := by decide +kernel
theorem rf_116_23 : zrf 116 23 = 187 := by decide +kernel
theorem rf_116_24 : zrf 116 24 = 200 := by decide +kernel
theorem rf_116_28 : zrf 116 28 = 213 := by decide +kernel
theorem rf_116_29 : zrf 116 29 = 374 := by decide +kernel
theorem rf_116_30 : zrf 116 30 = 535 := by decide +kernel
theorem rf_116_31 : zrf 116 31 = 548 := by decide +kernel
theorem rf_116_32 : zrf 116 32 = 561 := by decide +kernel
theorem rf_116_33 : zrf 116 33 = 565 := by decide +kernel
theorem rf_116_34 : zrf 116 34 = 566 := by decide +kernel
theorem rf_116_35 : zrf 116 35 = 567 := by decide +kernel
theorem rf_116_36 : zrf 116 36 = 568 := by decide +kernel
theorem rf_116_37 : zrf 116 37 = 569 := by decide +kernel
theorem rf_116_38 : zrf 116 38 = 570 := by decide +kernel
theorem rf_116_39 : zrf 116 39 = 571 := by decide +kernel
theorem rf_116_43 : zrf 116 43 = 572 := by decide +kernel
theorem rf_116_49 : zrf 116 49 = 576 := by decide +kernel
theorem rf_116_51 : zrf 116 51 = 577 := by decide +kernel
theorem rf_116_54 : zrf 116 54 = 582 := by decide +kernel
theorem rf_116_55 : zrf 116 55 = 600 := by decide +kernel
theorem rf_116_56 : zrf 116 56 = 601 := by decide +kernel
theorem rf_116_59 : zrf 116 59 = 602 := by decide +kernel
theorem rf_49_0 : zrf 49 0 = 98 := by decide +kernel
theorem rf_49_1 : zrf 49 1 = 104 := by decide +kernel
theorem rf_49_2 : zrf 49 2 = 110 := by decide +kernel
theorem ln_49 : zlen 49 = 3 := by decide +kernel
theorem rf_59_0 : zrf 59 0 = 63 := by decide +kernel
theorem rf_59_1 : zrf 59 1 = 69 := by decide +kernel
theorem rf_59_2 : zrf 59 2 = 75 := by decide +kernel
theorem rf_59_3 : zrf 59 3 = 81 := by decide +kernel
theorem ln_59 : zlen 59 = 4 := by decide +kernel
theorem rfa_127 : ∀ j, j < 16 → zrf 127 j = 128 + j := by decide +kernel
theorem lna_127 : ∀ j, j < 16 → zlen (128 + j) = 6 := by decide +kernel
theorem ln_127 : zlen 127 = 16 := by decide +kernel
theorem rfa_144 : ∀ j, j < 16 → zrf 144 j = 145 + j := by decide +kernel
theorem lna_144 : ∀ j, j < 16 → zlen (145 + j) = 6 := by decide +kernel
theorem ln_144 : zlen 144 = 16 := by decide +kernel
theorem rfa_161 : ∀ j, j < 12 → zrf 161 j = 162 + j := by decide +kernel
theorem lna_161 : ∀ j, j < 12 → zlen (162 + j) = 2 := by decide +kernel
theorem ln_161 : zlen 161 = 12 := by decide +kernel
theorem rfa_174 : ∀ j, j < 12 → zrf 174 j = 175 + j := by decide +kernel
theorem lna_174 : ∀ j, j < 12 → zlen (175 + j) = 2 := by decide +kernel
theorem ln_174 : zlen 174 = 12 := by decide +kernel
theorem rfa_187 : ∀ j, j < 12 → zrf 187 j = 188 + j := by decide +kernel
theorem lna_187 : ∀ j, j < 12 → zlen (188 + j) = 3 := by decide +kernel
theorem ln_187 : zlen 187 = 12 := by decide +kernel
theorem rfa_200 : ∀ j, j < 12 → zrf 200 j = 201 + j := by decide +kernel
theorem lna_200 : ∀ j, j < 12 → zlen (201 + j) = 3 := by decide +kernel
theorem ln_200 : zlen 200 = 12 := by decide +kernel
theorem rfa_213 : ∀ j, j < 160 → zrf 213 j = 214 + j := by decide +kernel
theorem lna_213 : ∀ j, j < 160 → zlen (214 + j) = 2 := by decide +kernel
theorem ln_213 : zlen 213 = 160 := by decide +kernel
theorem rfa_374 : ∀ j, j < 160 → zrf 374 j = 375 + j := by decide +kernel
theorem lna_374 : ∀ j, j < 160 → zlen (375 + j) = 2 := by decide +kernel
theorem ln_374 : zlen 374 = 160 := by decide +kernel
theorem rfa_535 : ∀ j, j < 12 → zrf 535 j = 536 + j := by decide +kernel
theorem lna_535 : ∀ j, j < 12 → zlen (536 + j) = 2 := by decide +kernel
theorem ln_535 : zlen 535 = 12 := by decide +kernel
theorem rfa_548 : ∀ j, j < 12 → zrf 548 j = 549 + j := by decide +kernel
theorem lna_548 : ∀ j, j < 12 → zlen (549 + j) = 2 := by decide +kernel
theorem ln_548 : zlen 548 = 12 := by decide +kernel
theorem rfa_561 : ∀ j, j < 3 → zrf 561 j = 562 + j := by decide +kernel
theorem lna_561 : ∀ j, j < 3 → zlen (562 + j) = 305 := by decide +kernel
theorem ln_561 : zlen 561 = 3 := by decide +kernel
theorem rfa_572 : ∀ j, j < 3 → zrf 572 j = 573 + j := by decide +kernel
theorem lna_572 : ∀ j, j < 3 → zlen (573 + j) = 3 := by decide +kernel
theorem ln_572 : zlen 572 = 3 := by decide +kernel
theorem rfa_577 : ∀ j, j < 4 → zrf 577 j = 578 + j := by decide +kernel
theorem lna_577 : ∀ j, j < 4 → zlen (578 + j) = 305 := by decide +kernel
theorem ln_577 : zlen 577 = 4 := by decide +kernel
theorem rfa_582 : ∀ j, j < 17 → zrf 582 j = 583 + j := by decide +kernel
theorem lna_582 : ∀ j, j < 17 → zlen (583 + j) = 17 := by decide +kernel
theorem ln_582 : zlen 582 = 17 := by decide +kernel
theorem ln_2 : zlen 2 = 600 := by decide +kernel
theorem ln_4 : zlen 4 = 6 := by decide +kernel
theorem ln_5 : zlen 5 = 16 := by decide +kernel
theorem ln_6 : zlen 6 = 16 := by decide +kernel
theorem ln_7 : zlen 7 = 12 := by decide +kernel
theorem ln_8 : zlen 8 = 12 := by decide +kernel
theorem ln_9 : zlen 9 = 12 := by decide +kernel
theorem ln_10 : zlen 10 = 12 := by decide +kernel
theorem ln_11 : zlen 11 = 12 := by decide +kernel
theorem ln_12 : zlen 12 = 12 := by decide +kernel
theorem ln_14 : zlen 14 = 6 := by decide +kernel
theorem ln_15 : zlen 15 = 16 := by decide +kernel
theorem ln_16 : zlen 16 = 16 := by decide +kernel
theorem ln_17 : zlen 17 = 12 := by decide +kernel
theorem ln_18 : zlen 18 = 12 := by decide +kernel
theorem ln_19 : zlen 19 = 12 := by decide +kernel
theorem ln_20 : zlen 20 = 12 := by decide +kernel
theorem ln_21 : zlen 21 = 12 := by decide +kernel
theorem ln_22 : zlen 22 = 12 := by decide +kernel
theorem ln_24 : zlen 24 = 150 := by decide +kernel
theorem ln_25 : zlen 25 = 150 := by decide +kernel
theorem ln_26 : zlen 26 = 7 := by decide +kernel
theorem ln_28 : zlen 28 = 150 := by decide +kernel
theorem ln_29 : zlen 29 = 150 := by decide +kernel
theorem ln_30 : zlen 30 = 7 := by decide +kernel
theorem ln_32 : zlen 32 = 12 := by decide +kernel
theorem ln_33 : zlen 33 = 12 := by decide +kernel
theorem ln_35 : zlen 35 = 12 := by decide +kernel
theorem ln_36 : zlen 36 = 12 := by decide +kernel
theorem ln_38 : zlen 38 = 13 := by decide +kernel
theorem ln_39 : zlen 39 = 16 := by decide +kernel
theorem ln_40 : zlen 40 = 16 := by decide +kernel
theorem ln_41 : zlen 41 = 16 := by decide +kernel
theorem ln_42 : zlen 42 = 16 := by decide +kernel
theorem ln_44 : zlen 44 = 13 := by decide +kernel
theorem ln_45 : zlen 45 = 16 := by decide +kernel
theorem ln_46 : zlen 46 = 16 := by decide +kernel
theorem ln_47 : zlen 47 = 16 := by decide +kernel
theorem ln_48 : zlen 48 = 16 := by decide +kernel
theorem ln_51 : zlen 51 = 16 := by decide +kernel
theorem ln_54 : zlen 54 = 13 := by decide +kernel
theorem ln_55 : zlen 55 = 16 := by decide +kernel
theorem ln_56 : zlen 56 = 16 := by decide +kernel
theorem ln_57 : zlen 57 = 16 := by decide +kernel
theorem ln_58 : zlen 58 = 16 := by decide +kernel
theorem ln_60 : zlen 60 = 289 := by decide +kernel
theorem ln_61 : zlen 61 = 13 := by decide +kernel
theorem ln_62 : zlen 62 = 3 := by decide +kernel
theorem ln_64 : zlen 64 = 13 := by decide +kernel
theorem ln_65 : zlen 65 = 16 := by decide +kernel
theorem ln_66 : zlen 66 = 16 := by decide +kernel
theorem ln_67 : zlen 67 = 16 := by decide +kernel
theorem ln_68 : zlen 68 = 16 := by decide +kernel
theorem ln_70 : zlen 70 = 13 := by decide +kernel
theorem ln_71 : zlen 71 = 16 := by decide +kernel
theorem ln_72 : zlen 72 = 16 := by decide +kernel
theorem ln_73 : zlen 73 = 16 := by decide +kernel
theorem ln_74 : zlen 74 = 16 := by decide +kernel
theorem ln_76 : zlen 76 = 13 := by decide +kernel
theorem ln_77 : zlen 77 = 16 := by decide +kernel
theorem ln_78 : zlen 78 = 16 := by decide +kernel
theorem ln_79 : zlen 79 = 16 := by decide +kernel
theorem ln_80 : zlen 80 = 16 := by decide +kernel
theorem ln_82 : zlen 82 = 13 := by decide +kernel
theorem ln_83 : zlen 83 = 16 := by decide +kernel
theorem ln_84 : zlen 84 = 16 := by decide +kernel
theorem ln_85 : zlen 85 = 16 := by decide +kernel
theorem ln_86 : zlen 86 = 16 := by decide +kernel
theorem ln_89 : zlen 89 = 13 := by decide +kernel
theorem ln_90 : zlen 90 = 16 := by decide +kernel
theorem ln_91 : zlen 91 = 16 := by decide +kernel
theorem ln_92 : zlen 92 = 16 := by decide +kernel
theorem ln_93 : zlen 93 = 16 := by decide +kernel
theorem ln_94 : zlen 94 = 61 := by decide +kernel
theorem ln_95 : zlen 95 = 6 := by decide +kernel
theorem ln_97 : zlen 97 = 3 := by decide +kernel
theorem ln_99 : zlen 99 = 13 := by decide +kernel
theorem ln_100 : zlen 100 = 16 := by decide +kernel
theorem ln_101 : zlen 101 = 16 := by decide +kernel
theorem ln_102 : zlen 102 = 16 := by decide +kernel
theorem ln_103 : zlen 103 = 16 := by decide +kernel
theorem ln_105 : zlen 105 = 13 := by decide +kernel
theorem ln_106 : zlen 106 = 16 := by decide +kernel
theorem ln_107 : zlen 107 = 16 := by decide +kernel
theorem ln_108 : zlen 108 = 16 := by decide +kernel
theorem ln_109 : zlen 109 = 16 := by decide +kernel
theorem ln_111 : zlen 111 = 13 := by decide +kernel
theorem ln_112 : zlen 112 = 16 := by decide +kernel
theorem ln_113 : zlen 113 = 16 := by decide +kernel
theorem ln_114 : zlen 114 = 16 := by decide +kernel
theorem ln_115 : zlen 115 = 16 := by decide +kernel
theorem ln_117 : zlen 117 = 600 := by decide +kernel
theorem ln_118 : zlen 118 = 2 := by decide +kernel
theorem ln_119 : zlen 119 = 6 := by decide +kernel
theorem ln_120 : zlen 120 = 6 := by decide +kernel
theorem ln_121 : zlen 121 = 6 := by decide +kernel
theorem ln_122 : zlen 122 = 6 := by decide +kernel
theorem ln_123 : zlen 123 = 16 := by decide +kernel
theorem ln_124 : zlen 124 = 16 := by decide +kernel
theorem ln_125 : zlen 125 = 12 := by decide +kernel
theorem ln_126 : zlen 126 = 12 := by decide +kernel
theorem ln_565 : zlen 565 = 160 := by decide +kernel
theorem ln_566 : zlen 566 = 7 := by decide +kernel
theorem ln_567 : zlen 567 = 305 := by decide +kernel
theorem ln_568 : zlen 568 = 305 := by decide +kernel
theorem ln_569 : zlen 569 = 305 := by decide +kernel
theorem ln_570 : zlen 570 = 305 := by decide +kernel
theorem ln_571 : zlen 571 = 305 := by decide +kernel
theorem ln_576 : zlen 576 = 13 := by decide +kernel
theorem ln_600 : zlen 600 = 6 := by decide +kernel
theorem ln_601 : zlen 601 = 6 := by decide +kernel
theorem ln_602 : zlen 602 = 3 := by decide +kernel
theorem ln_603 : zlen 603 = 1 := by decide +kernel
