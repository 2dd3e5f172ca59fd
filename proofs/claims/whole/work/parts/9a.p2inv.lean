/-! WHAT HOLDS BETWEEN CALLS: of the class, of the reference, and by values -/
section
/-- a byte with its sign -/
def sgB (b : Nat) : Int32 := if b < 128 then nI b else -nI (256 - b)
def sR0 : sR := ([], (fun _ => 0), (fun _ => 0), (fun _ => -1), (fun k => if k = 0 then 1 else 0), (fun _ => 0))
def gIm (im : List sR) (k : Nat) : sR := im.getD k sR0
theorem sFall_9 (α : sA) (c : Nat) : ∀ d (ρ : sR), sSc (sFall α c d ρ) 9 = sSc ρ 9 := by
  intro d
  induction d with
  | zero => intro ρ; rfl
  | succ d ih =>
    intro ρ
    rw [sFall]
    split
    · rw [ih]; rfl
    · rfl
theorem sKill_9 (α : sA) (ρ : sR) (m : Nat) : sSc (sKill α ρ m) 9 = sSc ρ 9 := by
  unfold sKill
  split
  · rfl
  · split
    · rfl
    · rw [sFall_9]; rfl
theorem sTell_9 (α : sA) (ρ : sR) : sSc (sTell α ρ) 9 = sSc ρ 9 := by
  unfold sTell
  refine zit_inv (fun _ r => sSc r 9 = sSc ρ 9) (α 0 4) (fun j r hj h => ?_) (α 0 4) 0 ρ (Nat.zero_add _) rfl
  show sSc (if α (30 + j) 0 = sSc r 0 then sKill α r (α (30 + j) 1) else r) 9 = sSc ρ 9
  split
  · rw [sKill_9, h]
  · exact h
theorem sFull_9 (α : sA) (ρ : sR) : sSc (sFull α ρ) 9 = sSc ρ 9 := by
  unfold sFull
  split
  · rfl
  · rfl
theorem sTake_9 (ρ : sR) (o : Option Nat) : sSc (sTake ρ o) 9 = sSc ρ 9 := by
  cases o with
  | none => rfl
  | some m => rfl
theorem sPass_9 (α : sA) (l : sL) (ρ : sR) : sSc (sPass α l ρ).2 9 = sSc ρ 9 := by
  show sSc (sAge α (sFull α (sTake (sTell α ρ) (sChoose α (sTell α ρ) (sScore α l (sTell α ρ)))))) 9 = sSc ρ 9
  refine Eq.trans (show _ = sSc (sFull α (sTake (sTell α ρ) (sChoose α (sTell α ρ) (sScore α l (sTell α ρ))))) 9 from rfl) ?_
  rw [sFull_9, sTake_9, sTell_9]
theorem sGo_9 (α : sA) (l : sL) : ∀ (d : Nat) (ρ : sR), sSc (sGo α l d ρ) 9 = sSc ρ 9 := by
  intro d
  induction d with
  | zero => intro ρ; rfl
  | succ d ih => intro ρ; rw [sGo, ih, sPass_9]
/-- the rows of a class that was told no academy yet are known but for the years of its men: it has none -/
def sFrs (α : sA) (ρb : sR) (im : List sR) : Prop := α 0 1 = 0 ∨ (sSc ρb 9 = 0 ∧ ∀ k, k < im.length → sSc (gIm im k) 9 = 0)
def okS (α : sA) (l : sL) (β : sB) (ρ ρb : sR) (im : List sR) (tp : List Nat) : Prop := okA α ∧ okL l ∧ okBk α β ∧ (okR α ρ ∧ sSc ρ 0 ≤ 200) ∧ okR α ρb ∧ (∃ d, ρ = sGo α l d ρb ∧ sSc ρ 0 = sSc ρb 0 + d ∧ sFrs α ρb im) ∧ (im.length ≤ 3 ∧ ∀ k, k < im.length → okR α (gIm im k) ∧ sSc (gIm im k) 0 ≤ 200) ∧ tp.length ≤ 600 ∧ ∀ k, k < tp.length → tp.getD k 0 < 256
theorem okS_f {α : sA} {l : sL} {β : sB} {ρ ρb : sR} {im : List sR} {tp : List Nat} (hs : okS α l β ρ ρb im tp) : sFrs α ρb im ∧ (α 0 1 = 0 ∨ sSc ρ 9 = 0) := by
  obtain ⟨d, h1, -, h3⟩ := hs.2.2.2.2.2.1
  refine ⟨h3, ?_⟩
  rcases h3 with h | h
  · exact Or.inl h
  · exact Or.inr (by rw [h1, sGo_9]; exact h.1)
theorem sFrs_r {α : sA} {l : sL} {β : sB} {ρ ρb ρ' : sR} {im : List sR} {tp : List Nat} (hs : okS α l β ρ ρb im tp) (h : sSc ρ' 9 = sSc ρ 9) : sFrs α ρ' im := by
  obtain ⟨h1, h2⟩ := okS_f hs
  rcases h1 with z | z
  · exact Or.inl z
  · rcases h2 with y | y
    · exact Or.inl y
    · exact Or.inr ⟨h.trans y, z.2⟩
/-- the class -/
def pIC (α : sA) (l : sL) (β : sB) (ρ ρb : sR) (im : List sR) (tp : List Nat) (pl r0 r1 : Int32) (v : zV) : Prop := CE v α l ∧ pCB v β ∧ RC 37 v ρ ∧ RC 43 v ρb ∧ (v 0 10 = nI im.length ∧ ∀ k, k < im.length → RC (98 + 6 * k) v (gIm im k)) ∧ (v 1 1 = nI tp.length ∧ ∀ k, k < tp.length → v 2 k = sgB (tp.getD k 0)) ∧ v 1 3 = pl ∧ v 0 15 = r0 ∧ v 0 16 = r1
/-- the reference -/
def pIM (α : sA) (l : sL) (β : sB) (ρ ρb : sR) (im : List sR) (tp : List Nat) (pl r0 r1 : Int32) (v : zV) : Prop := pME v α l ∧ pMB v β ∧ MR 567 v ρ ∧ MR 568 v ρb ∧ MR 569 v (sOpen α) ∧ MQ0 v ∧ v 116 41 = nI (sSc ρ 0 - sSc ρb 0) ∧ (v 116 42 = nI im.length ∧ ∀ k, k < im.length → MR (562 + k) v (gIm im k)) ∧ (v 116 1 = nI tp.length ∧ ∀ k, k < tp.length → v 117 k = nI (tp.getD k 0)) ∧ v 116 3 = pl ∧ v 118 0 = r0 ∧ v 118 1 = r1
def sInv (v : zV) : Prop := ∃ α l β ρ ρb im tp pl r0 r1, okS α l β ρ ρb im tp ∧ pIC α l β ρ ρb im tp pl r0 r1 v ∧ pIM α l β ρ ρb im tp pl r0 r1 v
theorem IC_f {α : sA} {l : sL} {β : sB} {ρ ρb : sR} {im : List sR} {tp : List Nat} {pl r0 r1 : Int32} {v w : zV} (hi : im.length ≤ 3) (h : pIC α l β ρ ρb im tp pl r0 r1 v) (e : ∀ a, a < 116 → a ≠ 25 → a ≠ 26 → (a < 51 ∨ 97 < a) → w a = v a) : pIC α l β ρ ρb im tp pl r0 r1 w := by
  obtain ⟨h1, h2, h3, h4, ⟨h5, h6⟩, ⟨h7, h8⟩, h9, h10, h11⟩ := h
  have e0 := e 0 (by decide) (by decide) (by decide) (by decide)
  have e1 := e 1 (by decide) (by decide) (by decide) (by decide)
  have e2 := e 2 (by decide) (by decide) (by decide) (by decide)
  refine ⟨⟨CA_fr h1.1 (fun a g1 g2 => e a (by omega) (by omega) (by omega) (by omega)), CL_fr h1.2 (e 23 (by decide) (by decide) (by decide) (by decide)) (e 24 (by decide) (by decide) (by decide) (by decide))⟩, CB_fr h2 (fun a g1 g2 => e a (by omega) (by omega) (by omega) (by omega)), RC_fr h3 (fun a g1 g2 => e a (by omega) (by omega) (by omega) (by omega)), RC_fr h4 (fun a g1 g2 => e a (by omega) (by omega) (by omega) (by omega)), ⟨by rw [e0]; exact h5, fun k hk => RC_fr (h6 k hk) (fun a g1 g2 => e a (by omega) (by omega) (by omega) (by omega))⟩, ⟨by rw [e1]; exact h7, fun k hk => by rw [e2]; exact h8 k hk⟩, by rw [e1]; exact h9, by rw [e0]; exact h10, by rw [e0]; exact h11⟩
theorem IM_f {α : sA} {l : sL} {β : sB} {ρ ρb : sR} {im : List sR} {tp : List Nat} {pl r0 r1 : Int32} {v w : zV} (ha : okA α) (hl : okL l) (hb : β.length ≤ 12) (hi : im.length ≤ 3) (h : pIM α l β ρ ρb im tp pl r0 r1 v) (e : ∀ a, 116 < a → a ≠ 565 → a ≠ 566 → a < 570 → w a = v a) (e2 : ∀ k, k ≠ 0 → k ≠ 45 → k ≠ 48 → k ≠ 50 → k ≠ 52 → k ≠ 53 → k ≠ 57 → k ≠ 58 → w 116 k = v 116 k) : pIM α l β ρ ρb im tp pl r0 r1 w := by
  obtain ⟨h1, h2, h3, h4, h5, ⟨h44, h46, h47⟩, h6, ⟨h7, h8⟩, ⟨h9, h10⟩, h11, h12, h13⟩ := h
  have e117 := e 117 (by decide) (by decide) (by decide) (by decide)
  have e118 := e 118 (by decide) (by decide) (by decide) (by decide)
  refine ⟨⟨MA_fr h1.1 ha (fun a g1 g2 => e a (by omega) (by omega) (by omega) (by omega)), ML_fr h1.2 hl (e2 26 (by decide) (by decide) (by decide) (by decide) (by decide) (by decide) (by decide) (by decide)) (fun a g1 g2 => e a (by omega) (by omega) (by omega) (by omega))⟩, MB_fr h2 hb (e2 40 (by decide) (by decide) (by decide) (by decide) (by decide) (by decide) (by decide) (by decide)) (fun a g1 g2 => e a (by omega) (by omega) (by omega) (by omega)), MR_fr h3 (e 567 (by decide) (by decide) (by decide) (by decide)), MR_fr h4 (e 568 (by decide) (by decide) (by decide) (by decide)), MR_fr h5 (e 569 (by decide) (by decide) (by decide) (by decide)), ⟨(e2 44 (by decide) (by decide) (by decide) (by decide) (by decide) (by decide) (by decide) (by decide)).trans h44, (e2 46 (by decide) (by decide) (by decide) (by decide) (by decide) (by decide) (by decide) (by decide)).trans h46, (e2 47 (by decide) (by decide) (by decide) (by decide) (by decide) (by decide) (by decide) (by decide)).trans h47⟩, (e2 41 (by decide) (by decide) (by decide) (by decide) (by decide) (by decide) (by decide) (by decide)).trans h6, ⟨(e2 42 (by decide) (by decide) (by decide) (by decide) (by decide) (by decide) (by decide) (by decide)).trans h7, fun k hk => MR_fr (h8 k hk) (e (562 + k) (by omega) (by omega) (by omega) (by omega))⟩, ⟨(e2 1 (by decide) (by decide) (by decide) (by decide) (by decide) (by decide) (by decide) (by decide)).trans h9, fun k hk => by rw [e117]; exact h10 k hk⟩, (e2 3 (by decide) (by decide) (by decide) (by decide) (by decide) (by decide) (by decide) (by decide)).trans h11, by rw [e118]; exact h12, by rw [e118]; exact h13⟩
theorem IC_frC {α : sA} {l : sL} {β : sB} {ρ ρb : sR} {im : List sR} {tp : List Nat} {pl r0 r1 : Int32} {v w : zV} (hi : im.length ≤ 3) (h : pIC α l β ρ ρb im tp pl r0 r1 v) (e : frC v w) : pIC α l β ρ ρb im tp pl r0 r1 w := IC_f hi h (fun a _ g2 g3 g4 => e a g2 g3 g4)
theorem IM_fr {α : sA} {l : sL} {β : sB} {ρ ρb : sR} {im : List sR} {tp : List Nat} {pl r0 r1 : Int32} {v w : zV} (ha : okA α) (hl : okL l) (hb : β.length ≤ 12) (hi : im.length ≤ 3) (h : pIM α l β ρ ρb im tp pl r0 r1 v) (e : ∀ a, 116 ≤ a → a < 603 → w a = v a) : pIM α l β ρ ρb im tp pl r0 r1 w := IM_f ha hl hb hi h (fun a g1 _ _ g4 => e a (by omega) (by omega)) (fun k _ _ _ _ _ _ _ _ => by rw [e 116 (by decide) (by decide)])
/-- the reference answered, with nothing refused -/
def frQ (v w : zV) : Prop := frM (zup v 116 0 0) w
theorem frQ_0 {v w : zV} (h : frQ v w) : w 116 0 = nI 0 := by
  rw [h.2 0 (by decide) (by decide) (by decide) (by decide) (by decide) (by decide) (by decide), p_up_s]
  rfl
theorem frQ_a {v w : zV} (h : frQ v w) : ∀ a, a ≠ 116 → a ≠ 565 → a ≠ 566 → (a < 570 ∨ 602 < a) → w a = v a := fun a g1 g2 g3 g4 => (h.1 a g1 g2 g3 g4).trans (p_up_a _ _ _ g1)
theorem frQ_k {v w : zV} (h : frQ v w) : ∀ k, k ≠ 0 → k ≠ 45 → k ≠ 48 → k ≠ 50 → k ≠ 52 → k ≠ 53 → k ≠ 57 → k ≠ 58 → w 116 k = v 116 k := fun k g0 g1 g2 g3 g4 g5 g6 g7 => (h.2 k g1 g2 g3 g4 g5 g6 g7).trans (p_up_n _ _ (Or.inr g0))
theorem IM_Q {α : sA} {l : sL} {β : sB} {ρ ρb : sR} {im : List sR} {tp : List Nat} {pl r0 r1 : Int32} {v w : zV} (ha : okA α) (hl : okL l) (hb : β.length ≤ 12) (hi : im.length ≤ 3) (h : pIM α l β ρ ρb im tp pl r0 r1 v) (e : frQ v w) : pIM α l β ρ ρb im tp pl r0 r1 w := IM_f ha hl hb hi h (fun a g1 g2 g3 g4 => frQ_a e a (by omega) g2 g3 (Or.inl g4)) (frQ_k e)
/-- one call: the class's answer, caught, against the reference's -/
def zTail (c : Option (Int32 × zV)) (m : zV → Option (Int32 × zV)) : Option zV :=
  zbind c fun r_2 v_1 =>
  zbind (m v_1) fun r_4 v_3 =>
  zbind (fX10_thrown 116 v_3) fun r_6 v_5 =>
  if r_6 = r_2 then
    if r_2 = (0 : Int32) then
      zix (0 : Int32) (zlen 603) <|
      if (lg_cmp ((v_5 603 (0 : Int32).toNatClampNeg).toInt64) ((r_4).toInt64)) = (0 : Int32) then
        some v_5
      else
        none
    else
      some v_5
  else
    none
def zTwo (c : Option (Int32 × zV)) (m : zV → Option (Int32 × zV)) : Option zV :=
  zbind c fun r_2 v_1 =>
  zbind (m v_1) fun r_4 v_3 =>
  if r_2 = r_4 then
    some v_3
  else
    none
theorem zTwo_at {v1 w : zV} {r : Int32} {m : zV → Option (Int32 × zV)} (h : m v1 = some (r, w)) : zTwo (some (r, v1)) m = some w := by
  unfold zTwo
  rw [zbind_some, h, zbind_some, if_pos rfl]
theorem l603 : zlen 603 = 1 := by decide +kernel
theorem cmp_self (a : Int64) : lg_cmp a a = 0 := by
  unfold lg_cmp
  have h : ¬ a > a := Int64.lt_irrefl
  rw [if_neg h, if_pos rfl]
theorem zTail_Y {v1 w : zV} {r : Int32} {e1 e2 : Option Int32} {m : zV → Option (Int32 × zV)} (h : m (zup v1 603 0 r) = some (r, w)) (h0 : w 116 0 = nI 0) (h3 : w 603 0 = r) : zTail (zcatch (some (0, r, v1)) 603 e1 e2) m = some w := by
  have hc : zcatch (some (0, r, v1)) 603 e1 e2 = some (0, zup v1 603 0 r) := by
    unfold zcatch
    dsimp only
    rw [if_pos rfl, l603]
    rfl
  unfold zTail
  rw [hc, zbind_some, h, zbind_some]
  unfold fX10_thrown
  rw [zbind_some, h0, if_pos (show nI 0 = 0 from rfl), if_pos rfl, l603]
  show zix 0 1 (if lg_cmp ((w 603 0).toInt64) r.toInt64 = 0 then some w else none) = some w
  rw [h3, cmp_self]
  rfl
theorem zTail_N {v1 w : zV} {z r : Int32} {c : Nat} {k : Int32} {e1 e2 : Option Int32} {m : zV → Option (Int32 × zV)} (hc : zcatch (some (c, z, v1)) 603 e1 e2 = some (k, v1)) (hk : ¬ k = 0) (h : m v1 = some (r, w)) (h0 : w 116 0 = k) : zTail (zcatch (some (c, z, v1)) 603 e1 e2) m = some w := by
  unfold zTail
  rw [hc, zbind_some, h, zbind_some]
  unfold fX10_thrown
  rw [zbind_some, h0, if_pos rfl, if_neg hk]
/-- ANSWERED: a question, with what may throw, and without -/
theorem tl_Y {α : sA} {l : sL} {β : sB} {ρ ρb : sR} {im : List sR} {tp : List Nat} {pl r0 r1 : Int32} {v v1 : zV} (hs : okS α l β ρ ρb im tp) (hI : pIC α l β ρ ρb im tp pl r0 r1 v) (hM : pIM α l β ρ ρb im tp pl r0 r1 v) {c : Option (Nat × Int32 × zV)} {m : zV → Option (Int32 × zV)} {r : Int32} {e1 e2 : Option Int32} (hc : c = some (0, r, v1)) (f1 : frC v v1) (hm : ∀ v2, pIM α l β ρ ρb im tp pl r0 r1 v2 → ∃ w, m v2 = some (r, w) ∧ frQ v2 w) : ∃ w, zTail (zcatch c 603 e1 e2) m = some w ∧ sInv w := by
  have hi := hs.2.2.2.2.2.2.1.1
  have hb := hs.2.2.1.1
  have hI1 := IC_frC hi hI f1
  have hI2 : pIC α l β ρ ρb im tp pl r0 r1 (zup v1 603 0 r) := IC_f hi hI1 (fun a g _ _ _ => p_up_a _ _ _ (by omega))
  have hM2 : pIM α l β ρ ρb im tp pl r0 r1 (zup v1 603 0 r) := IM_fr hs.1 hs.2.1 hb hi hM (fun a g1 g2 => (p_up_a _ _ _ (by omega)).trans (f1 a (by omega) (by omega) (by omega)))
  obtain ⟨w, hw, hf⟩ := hm _ hM2
  have h603 : w 603 0 = r := by
    rw [frQ_a hf 603 (by decide) (by decide) (by decide) (by decide), p_up_s]
  refine ⟨w, ?_, α, l, β, ρ, ρb, im, tp, pl, r0, r1, hs, IC_f hi hI2 (fun a g _ _ _ => frQ_a hf a (by omega) (by omega) (by omega) (by omega)), IM_Q hs.1 hs.2.1 hb hi hM2 hf⟩
  rw [hc]
  exact zTail_Y hw (frQ_0 hf) h603
theorem tl_2 {α : sA} {l : sL} {β : sB} {ρ ρb : sR} {im : List sR} {tp : List Nat} {pl r0 r1 : Int32} {v v1 : zV} (hs : okS α l β ρ ρb im tp) (hI : pIC α l β ρ ρb im tp pl r0 r1 v) (hM : pIM α l β ρ ρb im tp pl r0 r1 v) {c : Option (Int32 × zV)} {m : zV → Option (Int32 × zV)} {r : Int32} (hc : c = some (r, v1)) (f1 : frC v v1) (hm : ∀ v2, pIM α l β ρ ρb im tp pl r0 r1 v2 → ∃ w, m v2 = some (r, w) ∧ frQ v2 w) : ∃ w, zTwo c m = some w ∧ sInv w := by
  have hi := hs.2.2.2.2.2.2.1.1
  have hb := hs.2.2.1.1
  have hI1 := IC_frC hi hI f1
  have hM1 : pIM α l β ρ ρb im tp pl r0 r1 v1 := IM_fr hs.1 hs.2.1 hb hi hM (fun a g1 g2 => f1 a (by omega) (by omega) (by omega))
  obtain ⟨w, hw, hf⟩ := hm _ hM1
  refine ⟨w, ?_, α, l, β, ρ, ρb, im, tp, pl, r0, r1, hs, IC_f hi hI1 (fun a g _ _ _ => frQ_a hf a (by omega) (by omega) (by omega) (by omega)), IM_Q hs.1 hs.2.1 hb hi hM1 hf⟩
  rw [hc]
  exact zTwo_at hw
/-- REFUSED: 15 nobody is called so, 16 it doesn't fit -/
theorem tl_N {α : sA} {l : sL} {β : sB} {ρ ρb : sR} {im : List sR} {tp : List Nat} {pl r0 r1 : Int32} {v : zV} (hs : okS α l β ρ ρb im tp) (hI : pIC α l β ρ ρb im tp pl r0 r1 v) (hM : pIM α l β ρ ρb im tp pl r0 r1 v) {c : Option (Nat × Int32 × zV)} {m : zV → Option (Int32 × zV)} {z : Int32} {y : Nat} {z1 : Nat} (hz1 : z1 < 2) {e1 e2 : Option Int32} (hc : c = some (z1 + 1, z, zup v 0 (15 + z1) (v 0 (15 + z1) + 1))) (hy : 1 ≤ y ∧ y ≤ 2) (he : (z1 = 0 → e1 = some (nI y)) ∧ (z1 = 1 → e2 = some (nI y))) (hm : ∀ v2, pIM α l β ρ ρb im tp pl r0 r1 v2 → ∃ w, m v2 = some (nI 0, w) ∧ rfM y z1 v2 w) : ∃ w, zTail (zcatch c 603 e1 e2) m = some w ∧ sInv w := by
  have hi := hs.2.2.2.2.2.2.1.1
  have hb := hs.2.2.1.1
  have hu : ∀ a, a ≠ 0 → zup v 0 (15 + z1) (v 0 (15 + z1) + 1) a = v a := fun a g => p_up_a _ _ _ g
  have hM1 := IM_fr hs.1 hs.2.1 hb hi hM (fun a g1 g2 => hu a (by omega))
  obtain ⟨w, hw, g0, ga, gk, gz, gn⟩ := hm _ hM1
  have hwa : ∀ a, a < 116 → w a = zup v 0 (15 + z1) (v 0 (15 + z1) + 1) a := fun a g => ga a (by omega) (by omega)
  have hc0 : ∀ k, w 0 k = zup v 0 (15 + z1) (v 0 (15 + z1) + 1) 0 k := fun k => by rw [hwa 0 (by decide)]
  refine ⟨w, ?_, ?_⟩
  · rw [hc]
    refine zTail_N (k := nI y) ?_ ?_ hw g0
    · have : z1 = 0 ∨ z1 = 1 := by omega
      rcases this with rfl | rfl
      · rw [he.1 rfl]
        rfl
      · rw [he.2 rfl]
        rfl
    · have : y = 1 ∨ y = 2 := by omega
      rcases this with rfl | rfl <;> decide
  · refine ⟨α, l, β, ρ, ρb, im, tp, pl, (if z1 = 0 then r0 + 1 else r0), (if z1 = 0 then r1 else r1 + 1), hs, ?_, ?_⟩
    · obtain ⟨h1, h2, h3, h4, ⟨h5, h6⟩, ⟨h7, h8⟩, h9, h10, h11⟩ := hI
      have e1 := (hwa 1 (by decide)).trans (hu 1 (by decide))
      have e2 := (hwa 2 (by decide)).trans (hu 2 (by decide))
      have ew : ∀ a, a < 116 → a ≠ 0 → w a = v a := fun a g1 g2 => (hwa a g1).trans (hu a g2)
      refine ⟨⟨CA_fr h1.1 (fun a g1 g2 => ew a (by omega) (by omega)), CL_fr h1.2 (ew 23 (by decide) (by decide)) (ew 24 (by decide) (by decide))⟩, CB_fr h2 (fun a g1 g2 => ew a (by omega) (by omega)), RC_fr h3 (fun a g1 g2 => ew a (by omega) (by omega)), RC_fr h4 (fun a g1 g2 => ew a (by omega) (by omega)), ⟨?_, fun k hk => RC_fr (h6 k hk) (fun a g1 g2 => ew a (by omega) (by omega))⟩, ⟨by rw [e1]; exact h7, fun k hk => by rw [e2]; exact h8 k hk⟩, by rw [e1]; exact h9, ?_, ?_⟩
      · rw [hc0, p_up_n _ _ (Or.inr (by omega))]
        exact h5
      · have : z1 = 0 ∨ z1 = 1 := by omega
        rcases this with rfl | rfl
        · rw [hc0, p_up_s, h10]; rfl
        · rw [hc0, p_up_n _ _ (Or.inr (by decide))]; exact h10
      · have : z1 = 0 ∨ z1 = 1 := by omega
        rcases this with rfl | rfl
        · rw [hc0, p_up_n _ _ (Or.inr (by decide))]; exact h11
        · rw [hc0, p_up_s, h11]; rfl
    · obtain ⟨h1, h2, h3, h4, h5, ⟨h44, h46, h47⟩, h6, ⟨h7, h8⟩, ⟨h9, h10⟩, h11, h12, h13⟩ := hM1
      refine ⟨⟨MA_fr h1.1 hs.1 (fun a g1 g2 => ga a (by omega) (by omega)), ML_fr h1.2 hs.2.1 (gk 26 (by decide)) (fun a g1 g2 => ga a (by omega) (by omega))⟩, MB_fr h2 hb (gk 40 (by decide)) (fun a g1 g2 => ga a (by omega) (by omega)), MR_fr h3 (ga 567 (by decide) (by decide)), MR_fr h4 (ga 568 (by decide) (by decide)), MR_fr h5 (ga 569 (by decide) (by decide)), ⟨(gk 44 (by decide)).trans h44, (gk 46 (by decide)).trans h46, (gk 47 (by decide)).trans h47⟩, (gk 41 (by decide)).trans h6, ⟨(gk 42 (by decide)).trans h7, fun k hk => MR_fr (h8 k hk) (ga (562 + k) (by omega) (by omega))⟩, ⟨(gk 1 (by decide)).trans h9, fun k hk => by rw [ga 117 (by decide) (by decide)]; exact h10 k hk⟩, (gk 3 (by decide)).trans h11, ?_, ?_⟩
      · have : z1 = 0 ∨ z1 = 1 := by omega
        rcases this with rfl | rfl
        · rw [gz, h12]; rfl
        · rw [gn 0 (by decide)]; exact h12
      · have : z1 = 0 ∨ z1 = 1 := by omega
        rcases this with rfl | rfl
        · rw [gn 1 (by decide)]; exact h13
        · rw [gz, h13]; rfl
end
