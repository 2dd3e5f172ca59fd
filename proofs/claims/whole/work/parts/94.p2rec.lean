/-! RECORDS as values -/
section
/-- a book: years and whoever was taken in -/
abbrev sB : Type := List (Nat × Option Nat)
def bY (β : sB) (k : Nat) : Nat := (β.getD k (0, none)).1
def bM (β : sB) (k : Nat) : Option Nat := (β.getD k (0, none)).2
def okBk (α : sA) (β : sB) : Prop := β.length ≤ 12 ∧ ∀ k, k < β.length → (1 ≤ bY β k ∧ bY β k ≤ 60) ∧ ∀ m, bM β k = some m → m < α 0 1
/-- the last of the first n years -/
def sLY (β : sB) : Nat → Nat
  | 0 => 0
  | n + 1 => max (sLY β n) (bY β n)
theorem sLY_ge (β : sB) : ∀ n k, k < n → bY β k ≤ sLY β n := by
  intro n
  induction n with
  | zero => intro k hk; exact absurd hk (Nat.not_lt_zero k)
  | succ n ih =>
    intro k hk
    rw [sLY]
    rcases Nat.lt_or_ge k n with h | h
    · have := ih k h; omega
    · obtain rfl : k = n := by omega
      omega
theorem sLY_le (β : sB) {n : Nat} (h : ∀ k, k < n → bY β k ≤ 60) : sLY β n ≤ 60 := by
  induction n with
  | zero => exact Nat.zero_le _
  | succ n ih =>
    rw [sLY]
    have := ih (fun k hk => h k (by omega))
    have := h n (by omega)
    omega
def h0n : Nat → Nat → Int32 := fun _ _ => 0
/-- the row behind so many years, from the beginning -/
def sYr (α : sA) (l : sL) (mo : Option (Nat × Nat)) : Nat → sR
  | 0 => sOpen α
  | n + 1 => (sPassM α l mo h0n (sYr α l mo n)).2
/-- whoever comes in in the year behind these -/
def sIn (α : sA) (l : sL) (mo : Option (Nat × Nat)) (n : Nat) : Option Nat := (sPassM α l mo h0n (sYr α l mo n)).1
def okMo (α : sA) (mo : Option (Nat × Nat)) : Prop := ∀ y x, mo = some (y, x) → x < α 0 1
/-- all that is asked -/
def zall (p : Nat → Bool) : Nat → Nat → Bool
  | 0, _ => true
  | d + 1, j => if p j = true then zall p d (j + 1) else false
theorem zall_iff (p : Nat → Bool) : ∀ d j, zall p d j = true ↔ ∀ k, j ≤ k → k < j + d → p k = true := by
  intro d
  induction d with
  | zero => intro j; exact ⟨fun _ k h1 h2 => by omega, fun _ => rfl⟩
  | succ d ih =>
    intro j
    rw [zall]
    by_cases h : p j = true
    · rw [if_pos h, ih]
      constructor
      · intro g k h1 h2
        by_cases e : k = j
        · rw [e]; exact h
        · exact g k (by omega) (by omega)
      · intro g k h1 h2
        exact g k (by omega) (by omega)
    · rw [if_neg h]
      constructor
      · intro g; cases g
      · intro g; exact absurd (g j (Nat.le_refl _) (by omega)) h
/-- how far all goes well -/
def zfar (p : Nat → Bool) : Nat → Nat → Nat
  | 0, j => j
  | d + 1, j => if p j = true then zfar p d (j + 1) else j
theorem zfar_le (p : Nat → Bool) : ∀ d j, zfar p d j ≤ j + d := by
  intro d
  induction d with
  | zero => intro j; exact Nat.le_refl _
  | succ d ih =>
    intro j
    rw [zfar]
    split
    · have := ih (j + 1); omega
    · omega
theorem zfar_all (p : Nat → Bool) : ∀ d j, zfar p d j = j + d ↔ zall p d j = true := by
  intro d
  induction d with
  | zero => intro j; exact ⟨fun _ => rfl, fun _ => rfl⟩
  | succ d ih =>
    intro j
    rw [zfar, zall]
    by_cases h : p j = true
    · rw [if_pos h, if_pos h, ← ih, show j + (d + 1) = j + 1 + d by omega]
    · rw [if_neg h, if_neg h]
      exact ⟨fun g => by omega, fun g => by cases g⟩
/-- a line is right -/
def bOk (β : sB) (f : Nat → Option Nat) (k : Nat) : Bool := f (bY β k - 1) == bM β k
/-- a year's lines allow whoever comes in -/
def bAl (β : sB) (y : Nat) (o : Option Nat) (k : Nat) : Bool := if bY β k = y then bM β k == o else true
def sAl (β : sB) (y : Nat) (o : Option Nat) : Bool := zall (bAl β y o) β.length 0
/-- how many lines are right ahead of the first wrong one -/
def sRight (α : sA) (l : sL) (β : sB) (mo : Option (Nat × Nat)) : Nat := zfar (bOk β (sIn α l mo)) β.length 0
/-- all are right -/
def sHold (α : sA) (l : sL) (β : sB) (mo : Option (Nat × Nat)) : Bool := zall (fun y => sAl β (y + 1) (sIn α l mo y)) (sLY β β.length) 0
theorem sRight_le (α : sA) (l : sL) (β : sB) (mo : Option (Nat × Nat)) : sRight α l β mo ≤ β.length := by
  have := zfar_le (bOk β (sIn α l mo)) β.length 0
  unfold sRight
  omega
theorem sHold_right {α : sA} {l : sL} {β : sB} (hb : okBk α β) (mo : Option (Nat × Nat)) : sHold α l β mo = true ↔ sRight α l β mo = β.length := by
  have e : sRight α l β mo = β.length ↔ zall (bOk β (sIn α l mo)) β.length 0 = true := by
    rw [← zfar_all, Nat.zero_add]
    rfl
  rw [e, zall_iff]
  unfold sHold
  rw [zall_iff]
  constructor
  · intro h k _ hk
    have hY := (hb.2 k (by omega)).1
    have h1 := h (bY β k - 1) (Nat.zero_le _) (by have := sLY_ge β β.length k (by omega); omega)
    unfold sAl at h1
    rw [zall_iff] at h1
    have h2 := h1 k (Nat.zero_le _) hk
    unfold bAl at h2
    rw [if_pos (by omega), beq_iff_eq] at h2
    unfold bOk
    rw [beq_iff_eq, h2]
  · intro h y _ hy
    unfold sAl
    rw [zall_iff]
    intro k _ hk
    unfold bAl
    by_cases c : bY β k = y + 1
    · rw [if_pos c]
      have h1 := h k (Nat.zero_le _) hk
      unfold bOk at h1
      rw [beq_iff_eq, c] at h1
      rw [beq_iff_eq, ← h1]
      rfl
    · rw [if_neg c]
/-! the beginning -/
theorem sOpen_zit {α : sA} (ha : okA α) : ∀ d j (ρ : sR), j + d = α 0 3 → (sCh ρ = (List.range j).map (fun c => α 3 c) ∧ (∀ m, sSt ρ m = if m ∈ sCh ρ then 1 else 0) ∧ (∀ m, sSn ρ m = if m ∈ sCh ρ then 0 else -1) ∧ (∀ k, sSc ρ k = if k = 0 then 1 else 0)) → (fun ρ : sR => sCh ρ = (List.range (α 0 3)).map (fun c => α 3 c) ∧ (∀ m, sSt ρ m = if m ∈ sCh ρ then 1 else 0) ∧ (∀ m, sSn ρ m = if m ∈ sCh ρ then 0 else -1) ∧ (∀ k, sSc ρ k = if k = 0 then 1 else 0)) (zit (fun c ρ => sSit ρ (α 3 c) 0) d j ρ) := by
  intro d
  induction d with
  | zero =>
    intro j ρ e h
    rw [zit]
    obtain rfl : j = α 0 3 := by omega
    exact h
  | succ d ih =>
    intro j ρ e h
    rw [zit]
    refine ih (j + 1) _ (by omega) ?_
    obtain ⟨h1, h2, h3, h4⟩ := h
    have hc : sCh (sSit ρ (α 3 j) 0) = sCh ρ ++ [α 3 j] := rfl
    refine ⟨?_, fun m => ?_, fun m => ?_, h4⟩
    · rw [hc, h1, List.range_succ, List.map_append]
      rfl
    · show sUp (sSt ρ) (α 3 j) 1 m = _
      rw [hc, sUp_if]
      by_cases q : m = α 3 j
      · rw [if_pos q, if_pos (by rw [q]; exact List.mem_append_right _ (List.mem_singleton.mpr rfl))]
      · rw [if_neg q, h2]
        by_cases q2 : m ∈ sCh ρ
        · rw [if_pos q2, if_pos (List.mem_append_left _ q2)]
        · rw [if_neg q2, if_neg]
          intro g
          rcases List.mem_append.mp g with g | g
          · exact q2 g
          · exact q (List.mem_singleton.mp g)
    · show sUp (sSn ρ) (α 3 j) (nI 0) m = _
      rw [hc, sUp_if]
      by_cases q : m = α 3 j
      · rw [if_pos q, if_pos (by rw [q]; exact List.mem_append_right _ (List.mem_singleton.mpr rfl))]
        rfl
      · rw [if_neg q, h3]
        by_cases q2 : m ∈ sCh ρ
        · rw [if_pos q2, if_pos (List.mem_append_left _ q2)]
        · rw [if_neg q2, if_neg]
          intro g
          rcases List.mem_append.mp g with g | g
          · exact q2 g
          · exact q (List.mem_singleton.mp g)
theorem sOpen_at {α : sA} (ha : okA α) : sCh (sOpen α) = (List.range (α 0 3)).map (fun c => α 3 c) ∧ (∀ m, sSt (sOpen α) m = if m ∈ sCh (sOpen α) then 1 else 0) ∧ (∀ m, sSn (sOpen α) m = if m ∈ sCh (sOpen α) then 0 else -1) ∧ (∀ k, sSc (sOpen α) k = if k = 0 then 1 else 0) := by
  refine sOpen_zit ha (α 0 3) 0 ([], (fun _ => 0), (fun _ => 0), (fun _ => -1), (fun k => if k = 0 then 1 else 0), (fun _ => 0)) (Nat.zero_add _) ⟨rfl, fun m => ?_, fun m => ?_, fun k => rfl⟩
  · exact (if_neg (show ¬ m ∈ ([] : List Nat) from List.not_mem_nil)).symm
  · exact (if_neg (show ¬ m ∈ ([] : List Nat) from List.not_mem_nil)).symm
theorem sOpen_ok {α : sA} (ha : okA α) : okR α (sOpen α) ∧ sSc (sOpen α) 0 = 1 := by
  obtain ⟨h1, h2, h3, h4⟩ := sOpen_at ha
  have hsc0 : sSc (sOpen α) 0 = 1 := by rw [h4 0]; rfl
  have hnd : (sCh (sOpen α)).Nodup := by
    rw [h1, List.nodup_iff_pairwise_ne, List.pairwise_map]
    refine List.Pairwise.imp_of_mem (fun {a b} ma mb hab => ?_) List.pairwise_lt_range
    exact ha.2.2.2.2.1 a b hab (List.mem_range.mp mb)
  have hmem : ∀ m, m ∈ sCh (sOpen α) → m < α 0 1 := fun m hm => by
    rw [h1] at hm
    obtain ⟨c, hc, rfl⟩ := List.mem_map.mp hm
    exact ha.2.2.2.1 c (List.mem_range.mp hc)
  refine ⟨⟨?_, hnd, fun m => ?_, fun m => ?_, fun m hm => ⟨?_, ?_⟩, ⟨by omega, by omega⟩, fun m hm => ?_, fun m => ?_, fun m k y g1 g2 => ?_, ?_⟩, hsc0⟩
  · rw [h1, List.length_map, List.length_range]
    exact ha.1.2.2.2.2.1
  · rw [h2]
    by_cases q : m ∈ sCh (sOpen α)
    · rw [if_pos q]; exact ⟨fun _ => q, fun _ => rfl⟩
    · rw [if_neg q]; exact ⟨fun g => (by cases g), fun g => absurd g q⟩
  · rw [h2]
    split <;> omega
  · rw [h2, if_neg (fun q => by have := hmem m q; omega)]
  · rw [h3, if_neg (fun q => by have := hmem m q; omega)]
  · rw [h2] at hm
    by_cases q : m ∈ sCh (sOpen α)
    · rw [if_pos q] at hm; cases hm
    · rw [h3, if_neg q]
  · rw [h3]
    by_cases q : m ∈ sCh (sOpen α)
    · rw [if_pos q]
      exact Or.inr ⟨0, by omega, rfl⟩
    · rw [if_neg q]
      exact Or.inl rfl
  · omega
  · rw [h4 5]
    decide
theorem okW_more {α : sA} {n : Nat} {ρ : sR} (h : okW α n ρ) {mo : Option (Nat × Nat)} (hm : okMo α mo) : okW α n (sMore α mo ρ) ∧ sSc (sMore α mo ρ) 0 = sSc ρ 0 := by
  cases mo with
  | none => exact ⟨h, rfl⟩
  | some p =>
    obtain ⟨y, x⟩ := p
    show okW α n (if y = sSc ρ 0 then sKill α ρ x else ρ) ∧ sSc (if y = sSc ρ 0 then sKill α ρ x else ρ) 0 = sSc ρ 0
    split
    · exact ⟨okW_kill h (hm y x rfl), sKill_sc α ρ x (by decide) (by decide)⟩
    · exact ⟨h, rfl⟩
theorem okR_passM {α : sA} {l : sL} (ha : okA α) {ρ : sR} (h : okR α ρ) (hy : sSc ρ 0 < 900) {mo : Option (Nat × Nat)} (hm : okMo α mo) : okR α (sPassM α l mo h0n ρ).2 ∧ sSc (sPassM α l mo h0n ρ).2 0 = sSc ρ 0 + 1 := by
  obtain ⟨h1, h2⟩ := sTell_ok ha h
  obtain ⟨h3, h4⟩ := okW_more h1 hm
  have h5 := okR_after ha (ρ := sHp (sMore α mo (sTell α ρ)) h0n) (okW_hp h3 h0n) (show sSc (sMore α mo (sTell α ρ)) 0 < 900 by omega) (o := sChoose α (sHp (sMore α mo (sTell α ρ)) h0n) (sScore α l (sHp (sMore α mo (sTell α ρ)) h0n))) (fun m hm => sChoose_ok hm)
  refine ⟨h5.1, h5.2.trans ?_⟩
  show sSc (sMore α mo (sTell α ρ)) 0 + 1 = _
  omega
theorem sYr_ok {α : sA} (l : sL) (ha : okA α) {mo : Option (Nat × Nat)} (hm : okMo α mo) : ∀ n, n ≤ 60 → okR α (sYr α l mo n) ∧ sSc (sYr α l mo n) 0 = n + 1 := by
  intro n
  induction n with
  | zero => intro _; exact sOpen_ok ha
  | succ n ih =>
    intro hn
    obtain ⟨h1, h2⟩ := ih (by omega)
    obtain ⟨h3, h4⟩ := okR_passM (l := l) ha h1 (by omega) hm
    exact ⟨h3, by rw [sYr, h4, h2]⟩
theorem sIn_lt {α : sA} {l : sL} {mo : Option (Nat × Nat)} {n m : Nat} (h : sIn α l mo n = some m) : m < α 0 1 := (sChoose_ok h).1
theorem sFall_sn (α : sA) (c : Nat) : ∀ d (ρ : sR), sSn (sFall α c d ρ) = sSn ρ := by
  intro d
  induction d with
  | zero => intro ρ; rfl
  | succ d ih =>
    intro ρ
    rw [sFall]
    split
    · rw [ih]; rfl
    · rfl
theorem sKill_sn (α : sA) (ρ : sR) (m : Nat) : sSn (sKill α ρ m) = sSn ρ := by
  unfold sKill
  split
  · rfl
  · split
    · rfl
    · rw [sFall_sn]; rfl
theorem sTell_sn (α : sA) (ρ : sR) : sSn (sTell α ρ) = sSn ρ := by
  unfold sTell
  refine zit_inv (fun _ r => sSn r = sSn ρ) (α 0 4) (fun j r hj h => ?_) (α 0 4) 0 ρ (Nat.zero_add _) rfl
  show sSn (if α (30 + j) 0 = sSc r 0 then sKill α r (α (30 + j) 1) else r) = sSn ρ
  split
  · rw [sKill_sn, h]
  · exact h
theorem sMore_sn (α : sA) (mo : Option (Nat × Nat)) (ρ : sR) : sSn (sMore α mo ρ) = sSn ρ := by
  cases mo with
  | none => rfl
  | some p =>
    obtain ⟨y, x⟩ := p
    show sSn (if y = sSc ρ 0 then sKill α ρ x else ρ) = sSn ρ
    split
    · rw [sKill_sn]
    · rfl
/-- whoever was taken in, told by the row behind -/
theorem sTk_pass {α : sA} {l : sL} (ha : okA α) {ρ : sR} (h : okR α ρ) {mo : Option (Nat × Nat)} (hm : okMo α mo) : sTk (sPassM α l mo h0n ρ).2 (sSc ρ 0) = (sPassM α l mo h0n ρ).1 ∧ ∀ y, 1 ≤ y → y < sSc ρ 0 → sTk (sPassM α l mo h0n ρ).2 y = sTk ρ y := by
  obtain ⟨h1, h2⟩ := sTell_ok ha h
  obtain ⟨h3, h4⟩ := okW_more h1 hm
  have hS : sSn (sHp (sMore α mo (sTell α ρ)) h0n) = sSn ρ := (sMore_sn α mo (sTell α ρ)).trans (sTell_sn α ρ)
  have hY : sSc (sHp (sMore α mo (sTell α ρ)) h0n) 0 = sSc ρ 0 := by
    show sSc (sMore α mo (sTell α ρ)) 0 = sSc ρ 0
    omega
  have hoo : ∀ m, (sPassM α l mo h0n ρ).1 = some m → m < α 0 1 ∧ sSt (sHp (sMore α mo (sTell α ρ)) h0n) m = 0 := fun m hm => sChoose_ok hm
  have hW : okW α (α 0 2) (sHp (sMore α mo (sTell α ρ)) h0n) := okW_hp h3 h0n
  have hn := sTk_new ha hW hoo
  have e : ∀ y, sTk (sPassM α l mo h0n ρ).2 y = sTk (sTake (sHp (sMore α mo (sTell α ρ)) h0n) (sPassM α l mo h0n ρ).1) y := by
    intro y
    show sTk (sAge α (sFull α (sTake (sHp (sMore α mo (sTell α ρ)) h0n) (sPassM α l mo h0n ρ).1))) y = _
    unfold sTk
    rw [show sSn (sAge α (sFull α (sTake (sHp (sMore α mo (sTell α ρ)) h0n) (sPassM α l mo h0n ρ).1))) = sSn (sFull α (sTake (sHp (sMore α mo (sTell α ρ)) h0n) (sPassM α l mo h0n ρ).1)) from rfl, sFull_sn]
  refine ⟨?_, fun y hy1 hy2 => ?_⟩
  · rw [e, ← hY]
    exact hn
  · rw [e]
    have hyr := hW.2.2.2.2.2.1
    rw [hY] at hyr
    generalize hG : sHp (sMore α mo (sTell α ρ)) h0n = ρ1 at *
    cases ho : (sPassM α l mo h0n ρ).1 with
    | none =>
      unfold sTk
      rw [show sSn (sTake ρ1 none) = sSn ρ1 from rfl, hS]
    | some m =>
      have hm0 := hW.2.2.2.2.2.2.1 m (hoo m ho).2
      unfold sTk
      rw [show sSn (sTake ρ1 (some m)) = sUp (sSn ρ1) m (nI (sSc ρ1 0)) from rfl, hY]
      congr 1
      funext k
      rw [sUp_if]
      by_cases c : k = m
      · rw [if_pos c, c, ← hS, hm0, beq_eq_false_iff_ne.mpr, beq_eq_false_iff_ne.mpr]
        · intro q
          rw [show (-1 : Int32) = -nI 1 from rfl, ng_eq2 (by omega) (by decide) (by decide)] at q
          exact q
        · intro q
          have := (nI_eq (by omega) (by omega)).mp q
          omega
      · rw [if_neg c, hS]
theorem sYr_tk {α : sA} (l : sL) (ha : okA α) {mo : Option (Nat × Nat)} (hm : okMo α mo) : ∀ n, n ≤ 60 → ∀ y, y < n → sTk (sYr α l mo n) (y + 1) = sIn α l mo y := by
  intro n
  induction n with
  | zero => intro _ y hy; exact absurd hy (Nat.not_lt_zero y)
  | succ n ih =>
    intro hn y hy
    obtain ⟨h1, h2⟩ := sYr_ok l ha hm n (by omega)
    obtain ⟨h3, h4⟩ := sTk_pass (l := l) ha h1 hm
    rw [sYr]
    by_cases c : y = n
    · rw [c, ← h2, h3]
      rfl
    · rw [h4 (y + 1) (by omega) (by omega)]
      exact ih (by omega) y (by omega)
end
