/-! THE START, as values -/
section
def zV6 : Nat → Int32 := fun k => if k = 2 then 6 else 0
def zV5 : Nat → Int32 := fun k => if k = 3 then 5 else 0
def zVL : Nat → Int32 := upd (upd (upd (upd (upd (fun _ => 0) 0 (-7)) 1 10) 2 (-3)) 3 (-9)) 4 (-1)
def zVR : Nat → Int32 := fun k => if k = 0 then 1 else 0
def zV0 : zV := fun a => if a = 1 then (fun k => if k = 3 then -1 else 0) else if a = 3 then zV6 else if a = 13 then zV6 else if a = 23 then zV5 else if a = 24 then zVL else if a = 27 then zV5 else if a = 28 then zVL else if a = 37 then zVR else if a = 43 then zVR else if a = 53 then zVR else if a = 63 then zVR else if a = 69 then zVR else if a = 75 then zVR else if a = 81 then zVR else if a = 88 then zVR else if a = 98 then zVR else if a = 104 then zVR else if a = 110 then zVR else if a = 116 then (fun k => if k = 3 then -1 else if k = 46 then -1 else 0) else fun _ => 0
def sRf : sR := rUpSc (sOpen α0n) (sUp (sSc (sOpen α0n)) 9 1)
theorem sRf_ok : okR α0n sRf := (sOpen_ok okA_0).1
theorem okS_0 : okS α0n sUsual [] sRf sRf [] [] := ⟨okA_0, okL_usual, ⟨Nat.zero_le _, fun k hk => absurd hk (Nat.not_lt_zero k)⟩, ⟨sRf_ok, by decide +kernel⟩, sRf_ok, ⟨0, rfl, rfl, Or.inl rfl⟩, ⟨Nat.zero_le _, fun k hk => absurd hk (Nat.not_lt_zero k)⟩, Nat.zero_le _, fun k hk => absurd hk (Nat.not_lt_zero k)⟩
theorem RC_0 {i : Nat} {w : zV} (h0 : w i = zVR) (h1 : ∀ k, 2 ≤ k → k < 6 → k ≠ 4 → w (i + k) = fun _ => 0) : RC i w sRf := by
  refine ⟨⟨?_, ?_, ?_, ?_, ?_, ?_, ?_, 0, Nat.zero_le _, ?_⟩, fun c hc => absurd hc (Nat.not_lt_zero c), fun m hm => ?_, fun m hm => ?_, fun m hm h9 => absurd h9 (by decide +kernel), fun m hm => ?_⟩
  · rw [h0]; decide +kernel
  · rw [h0]; decide +kernel
  · rw [h0]; decide +kernel
  · rw [h0]; decide +kernel
  · rw [h0]; decide +kernel
  · rw [h0]; decide +kernel
  · rw [h0]; decide +kernel
  · rw [h0]; decide +kernel
  · rw [h1 2 (by decide) (by decide) (by decide)]; rfl
  · rw [h1 3 (by decide) (by decide) (by decide)]; rfl
  · rw [h0, if_neg (by decide +kernel)]; rfl
theorem sInv_0 : ∃ v1 w, fX10_tellsNothing 116 zV0 = some v1 ∧ fX10_stands 116 v1 = some w ∧ sInv w ∧ w 603 = fun _ => 0 := by
  obtain ⟨v1, h1, hE, ha, hk⟩ := p_tellsN zV0
  obtain ⟨w, h2, wA, w7, w8, w9, k26, k40, k41, k42, wa, wk⟩ := p_stands okA_0 hE
  have e : ∀ a, a ≠ 116 → (a < 119 ∨ 212 < a) → a ≠ 567 → a ≠ 568 → a ≠ 569 → w a = zV0 a := fun a g1 g2 g3 g4 g5 => (wa a g1 g2 g3 g4 g5).trans (ha a g1 (by omega))
  have k : ∀ k, k ≠ 25 → k ≠ 26 → k ≠ 40 → k ≠ 41 → k ≠ 42 → w 116 k = zV0 116 k := fun k g0 g1 g2 g3 g4 => (wk k g1 g2 g3 g4).trans (hk k g0)
  have c : ∀ a, a < 116 → w a = zV0 a := fun a g => e a (by omega) (by omega) (by omega) (by omega) (by omega)
  refine ⟨v1, w, h1, h2, ⟨α0n, sUsual, [], sRf, sRf, [], [], -1, 0, 0, okS_0, ⟨⟨⟨⟨?_, ?_, ?_, ?_, ?_, ?_⟩, fun q hq => absurd hq (Nat.not_lt_zero q), fun q hq => absurd hq (Nat.not_lt_zero q), fun q hq => absurd hq (Nat.not_lt_zero q), fun q hq => absurd hq (Nat.not_lt_zero q), fun q hq => absurd hq (Nat.not_lt_zero q), fun q hq => absurd hq (Nat.not_lt_zero q)⟩, ?_, fun q hq => ?_⟩, ⟨?_, fun q hq => absurd hq (Nat.not_lt_zero q)⟩, RC_0 (c 37 (by decide)) (fun q g1 g2 g3 => ?_), RC_0 (c 43 (by decide)) (fun q g1 g2 g3 => ?_), ⟨?_, fun q hq => absurd hq (Nat.not_lt_zero q)⟩, ⟨?_, fun q hq => absurd hq (Nat.not_lt_zero q)⟩, ?_, ?_, ?_⟩, ⟨wA, Or.inl ⟨k26, rfl⟩⟩, ⟨k40, fun q hq => absurd hq (Nat.not_lt_zero q)⟩, w7, w8, w9, ⟨?_, ?_, ?_⟩, k41, ⟨k42, fun q hq => absurd hq (Nat.not_lt_zero q)⟩, ⟨?_, fun q hq => absurd hq (Nat.not_lt_zero q)⟩, ?_, ?_, ?_⟩, ?_⟩
  · rw [c 3 (by decide)]; decide +kernel
  · rw [c 3 (by decide)]; decide +kernel
  · rw [c 3 (by decide)]; decide +kernel
  · rw [c 3 (by decide)]; decide +kernel
  · rw [c 3 (by decide)]; decide +kernel
  · rw [c 3 (by decide)]; decide +kernel
  · rw [c 23 (by decide)]; decide +kernel
  · have : q = 0 ∨ q = 1 ∨ q = 2 ∨ q = 3 ∨ q = 4 := by have : sUsual.length = 5 := rfl; omega
    rw [c 24 (by decide)]
    rcases this with rfl | rfl | rfl | rfl | rfl <;> decide +kernel
  · rw [c 31 (by decide)]; decide +kernel
  · have : q = 2 ∨ q = 3 ∨ q = 5 := by omega
    rw [c (37 + q) (by omega)]
    rcases this with rfl | rfl | rfl <;> rfl
  · have : q = 2 ∨ q = 3 ∨ q = 5 := by omega
    rw [c (43 + q) (by omega)]
    rcases this with rfl | rfl | rfl <;> rfl
  · rw [c 0 (by decide)]; decide +kernel
  · rw [c 1 (by decide)]; decide +kernel
  · rw [c 1 (by decide)]; decide +kernel
  · rw [c 0 (by decide)]; decide +kernel
  · rw [c 0 (by decide)]; decide +kernel
  · rw [k 44 (by decide) (by decide) (by decide) (by decide) (by decide)]; decide +kernel
  · rw [k 46 (by decide) (by decide) (by decide) (by decide) (by decide)]; decide +kernel
  · rw [k 47 (by decide) (by decide) (by decide) (by decide) (by decide)]; decide +kernel
  · rw [k 1 (by decide) (by decide) (by decide) (by decide) (by decide)]; decide +kernel
  · rw [k 3 (by decide) (by decide) (by decide) (by decide) (by decide)]; decide +kernel
  · rw [e 118 (by decide) (by decide) (by decide) (by decide) (by decide)]; decide +kernel
  · rw [e 118 (by decide) (by decide) (by decide) (by decide) (by decide)]; decide +kernel
  · exact (e 603 (by decide) (by decide) (by decide) (by decide) (by decide)).trans rfl
end
