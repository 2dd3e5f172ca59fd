/-! LAW: what its reading is, and the class's -/
section
def tNmA (L : List Nat) (τ : rdE) : Nat → Nat → Option Nat × rdE
  | 0, _ => (none, τ)
  | d + 1, k => if (tTk L (tW (8 + k)) τ).1 = true then (some k, (tTk L (tW (8 + k)) τ).2) else tNmA L τ d (k + 1)
def tNm (L : List Nat) (τ : rdE) : Option Nat × rdE := tNmA L τ 7 0
abbrev tRC : Type := Nat → rdE → sL × rdE
def tBr (L : List Nat) (RC : tRC) (o : Nat) (τ τ1 : rdE) : sL × rdE := if 6 ≤ o then ([], tFl τ1 3 (tPo τ)) else ((RC (o + 1) τ1).1, tSg L 41 (RC (o + 1) τ1).2)
def tTw (L : List Nat) (RC : tRC) (o c : Nat) (τ τ1 : rdE) : sL × rdE := if 6 ≤ o then ([], tFl τ1 3 (tPo τ)) else ((RC (o + 1) (tSg L 91 τ1)).1 ++ (RC (o + 1) (tSg L 44 (RC (o + 1) (tSg L 91 τ1)).2)).1 ++ [(c, 0)], tSg L 93 (RC (o + 1) (tSg L 44 (RC (o + 1) (tSg L 91 τ1)).2)).2)
def tUn (L : List Nat) (RC : tRC) (o : Nat) (τ : rdE) : sL × rdE :=
  if (tTk L (tW 6) τ).1 = true then tTw L RC o 6 τ (tTk L (tW 6) τ).2
  else if (tTk L (tW 7) τ).1 = true then tTw L RC o 7 τ (tTk L (tW 7) τ).2
  else if (tTs L 40 τ).1 = true then tBr L RC o τ (tTs L 40 τ).2
  else match (tNm L τ).1 with
    | some k => ([(1, k)], (tNm L τ).2)
    | none => ([(0, (tNum L 0 1000 τ).1)], (tNum L 0 1000 τ).2)
/-- a chain of U, by the signs a and b (steps x and y) -/
def tCh (L : List Nat) (U : rdE → sL × rdE) (a b x y : Nat) : Nat → sL → rdE → sL × rdE
  | 0, P, τ => (P, τ)
  | d + 1, P, τ => if (tTs L a τ).1 = true then tCh L U a b x y d (P ++ (U (tTs L a τ).2).1 ++ [(x, 0)]) (U (tTs L a τ).2).2
    else if (tTs L b τ).1 = true then tCh L U a b x y d (P ++ (U (tTs L b τ).2).1 ++ [(y, 0)]) (U (tTs L b τ).2).2
    else (P, τ)
def tPd (L : List Nat) (RC : tRC) (o : Nat) (τ : rdE) : sL × rdE := tCh L (tUn L RC o) 42 47 4 5 150 (tUn L RC o τ).1 (tUn L RC o τ).2
def tSu (L : List Nat) (RC : tRC) (o : Nat) (τ : rdE) : sL × rdE := tCh L (tPd L RC o) 43 45 2 3 150 (tPd L RC o τ).1 (tPd L RC o τ).2
def tSm (L : List Nat) : Nat → tRC
  | 0 => fun _ τ => ([], τ)
  | D + 1 => tSu L (tSm L D)
def tLw (L : List Nat) (τ : rdE) : sL × rdE := ((tSm L 20 0 τ).1, match (tSm L 20 0 τ).2 with
  | .inl p => if p < L.length then .inr (1, p) else .inl p
  | .inr f => .inr f)
/-! what may come of it -/
def wfE (P : sL) : Prop := ∀ (R : sL) (m : Nat), wfL R (m + 1) → wfL (P ++ R) m
theorem wfE_num {x : Nat} (h : x ≤ 999) : wfE [(0, x)] := fun R m hr => by
  show (if 0 < 2 then ((0 = 0 → x ≤ 999) ∧ (0 = 1 → x < 7)) ∧ wfL R (m + 1) else 0 < 8 ∧ 2 ≤ m ∧ wfL R (m - 1))
  rw [if_pos (by decide)]
  exact ⟨⟨fun _ => h, fun z => by cases z⟩, hr⟩
theorem wfE_name {x : Nat} (h : x < 7) : wfE [(1, x)] := fun R m hr => by
  show (if 1 < 2 then ((1 = 0 → x ≤ 999) ∧ (1 = 1 → x < 7)) ∧ wfL R (m + 1) else 1 < 8 ∧ 2 ≤ m ∧ wfL R (m - 1))
  rw [if_pos (by decide)]
  exact ⟨⟨fun z => (by cases z), fun _ => h⟩, hr⟩
theorem wfE_op {A B : sL} {c : Nat} (hA : wfE A) (hB : wfE B) (h2 : 2 ≤ c) (h8 : c < 8) : wfE (A ++ B ++ [(c, 0)]) := fun R m hr => by
  rw [List.append_assoc, List.append_assoc]
  refine hA _ m (hB _ (m + 1) ?_)
  show (if c < 2 then ((c = 0 → 0 ≤ 999) ∧ (c = 1 → 0 < 7)) ∧ wfL R (m + 1 + 1 + 1) else c < 8 ∧ 2 ≤ m + 1 + 1 ∧ wfL R (m + 1 + 1 - 1))
  rw [if_neg (by omega)]
  exact ⟨h8, by omega, hr⟩
/-- a reading goes on, and keeps faults -/
def sGd (L : List Nat) (S : rdE → sL × rdE) : Prop := (∀ f, (S (.inr f)).2 = .inr f) ∧ ∀ p q, p ≤ L.length → (S (.inl p)).2 = .inl q → p < q ∧ q ≤ L.length ∧ (S (.inl p)).1.length ≤ q - p ∧ wfE (S (.inl p)).1
theorem tTk_ok {L W : List Nat} {τ : rdE} (h : (tTk L W τ).1 = true) : ∃ p, τ = .inl p ∧ tIs L p W = true ∧ (tTk L W τ).2 = .inl (tSk L (p + W.length)) := by
  rw [tTk_1] at h
  cases τ with
  | inr f => cases h
  | inl p =>
    have h2 : tIs L p W = true := h
    exact ⟨p, rfl, h2, congrArg Prod.snd (if_pos h2 : tTk L W (.inl p) = (true, .inl (tSk L (p + W.length))))⟩
theorem tTk_no {L W : List Nat} {τ : rdE} (h : ¬ (tTk L W τ).1 = true) : (tTk L W τ).2 = τ := by
  rw [tTk_1] at h
  cases τ with
  | inr f => rfl
  | inl p => exact congrArg Prod.snd (if_neg h : tTk L W (.inl p) = (false, .inl p))
theorem tTs_ok {L : List Nat} {c : Nat} {τ : rdE} (h : (tTs L c τ).1 = true) : ∃ p, τ = .inl p ∧ (p < L.length ∧ bA L p = c) ∧ (tTs L c τ).2 = .inl (tSk L (p + 1)) := by
  cases τ with
  | inr f => cases h
  | inl p =>
    by_cases q : p < L.length ∧ bA L p = c
    · exact ⟨p, rfl, q, congrArg Prod.snd (if_pos q : tTs L c (.inl p) = (true, .inl (tSk L (p + 1))))⟩
    · have e : tTs L c (.inl p) = (false, .inl p) := if_neg q
      rw [e] at h
      cases h
theorem tTs_no {L : List Nat} {c : Nat} {τ : rdE} (h : ¬ (tTs L c τ).1 = true) : (tTs L c τ).2 = τ := by
  cases τ with
  | inr f => rfl
  | inl p =>
    by_cases q : p < L.length ∧ bA L p = c
    · have e : tTs L c (.inl p) = (true, .inl (tSk L (p + 1))) := if_pos q
      rw [e] at h
      exact absurd rfl h
    · exact congrArg Prod.snd (if_neg q : tTs L c (.inl p) = (false, .inl p))
theorem tIs_le {L W : List Nat} {p : Nat} (hp : p ≤ L.length) (h : tIs L p W = true) : p + W.length ≤ L.length := by
  rw [← tIs_we h]
  exact tWe_le L hp
theorem tSg_lt {L : List Nat} {c : Nat} {τ : rdE} {q : Nat} (h : tSg L c τ = .inl q) : ∃ p, τ = .inl p ∧ p < q ∧ q ≤ L.length := by
  cases τ with
  | inr f => cases h
  | inl p =>
    by_cases z : p < L.length ∧ bA L p = c
    · have e : tSg L c (.inl p) = .inl (tSk L (p + 1)) := if_pos z
      rw [e] at h
      cases h
      exact ⟨p, rfl, Nat.lt_of_lt_of_le (Nat.lt_succ_self p) (tSk_ge L (p + 1)), tSk_le L (by omega)⟩
    · have e : tSg L c (.inl p) = .inr (1, p) := if_neg z
      rw [e] at h
      cases h
theorem tNum_lt {L : List Nat} {a b p q : Nat} (hp : p ≤ L.length) (h : (tNum L a b (.inl p)).2 = .inl q) : p < q ∧ q ≤ L.length ∧ (tNum L a b (.inl p)).1 < b := by
  obtain ⟨g1, g2, p', e, h1, h2, h3⟩ := tNum_ok h
  cases e
  have d1 := tDig_gt L h1 h2
  have d2 := tDig_le L hp
  have d3 := tSk_ge L (tDig L (L.length - p) p 0).1
  have d4 := tSk_le L d2
  exact ⟨by omega, by omega, g2⟩
theorem tNmA_ok {L : List Nat} : ∀ (d k : Nat) (τ : rdE), k + d = 7 → (∀ x, (tNmA L τ d k).1 = some x → x < 7 ∧ ∃ p, τ = .inl p ∧ tIs L p (tW (8 + x)) = true ∧ (tNmA L τ d k).2 = .inl (tSk L (p + (tW (8 + x)).length))) ∧ ((tNmA L τ d k).1 = none → (tNmA L τ d k).2 = τ ∧ ∀ x, k ≤ x → x < 7 → ¬ (tTk L (tW (8 + x)) τ).1 = true) := by
  intro d
  induction d with
  | zero => intro k τ e; exact ⟨fun x h => (by cases h), fun _ => ⟨rfl, fun x h1 h2 => by omega⟩⟩
  | succ d ih =>
    intro k τ e
    rw [tNmA]
    by_cases c : (tTk L (tW (8 + k)) τ).1 = true
    · rw [if_pos c]
      refine ⟨fun x h => ?_, fun h => by cases h⟩
      cases h
      obtain ⟨p, h1, h2, h3⟩ := tTk_ok c
      exact ⟨by omega, p, h1, h2, h3⟩
    · rw [if_neg c]
      obtain ⟨i1, i2⟩ := ih (k + 1) τ (by omega)
      refine ⟨i1, fun h => ⟨(i2 h).1, fun x h1 h2 => ?_⟩⟩
      by_cases g : x = k
      · rw [g]; exact c
      · exact (i2 h).2 x (by omega) h2
theorem sGd_un {L : List Nat} {RC : tRC} {o : Nat} (hR : o < 6 → sGd L (RC (o + 1))) : sGd L (tUn L RC o) := by
  have tw : ∀ (c : Nat) (τ1 τ : rdE), 2 ≤ c → c < 8 → ∀ p q, τ1 = .inl p → p ≤ L.length → (tTw L RC o c τ τ1).2 = .inl q → p < q ∧ q ≤ L.length ∧ (tTw L RC o c τ τ1).1.length ≤ q - p ∧ wfE (tTw L RC o c τ τ1).1 := by
    intro c τ1 τ c2 c8 p q e hp h
    unfold tTw at h ⊢
    by_cases g : 6 ≤ o
    · rw [if_pos g] at h
      exact absurd h tFl_no
    · rw [if_neg g] at h ⊢
      dsimp only at h ⊢
      obtain ⟨G1, G2⟩ := hR (by omega)
      obtain ⟨p3, e3, l3, m3⟩ := tSg_lt h
      cases e2 : tSg L 44 (RC (o + 1) (tSg L 91 τ1)).2 with
      | inr f => rw [e2, G1] at e3; cases e3
      | inl p2 =>
        obtain ⟨p1, e1, l1, m1⟩ := tSg_lt e2
        cases e0 : tSg L 91 τ1 with
        | inr f => rw [e0, G1] at e1; cases e1
        | inl p0 =>
          obtain ⟨pp, ee, l0, m0⟩ := tSg_lt e0
          rw [e] at ee
          cases ee
          rw [e0] at e1 e2 e3
          rw [e2] at e3
          obtain ⟨a1, a2, a3, a4⟩ := G2 p0 p1 m0 e1
          obtain ⟨b1, b2, b3, b4⟩ := G2 p2 p3 m1 e3
          refine ⟨by omega, m3, ?_, wfE_op a4 b4 c2 c8⟩
          rw [List.length_append, List.length_append]
          show _ + _ + 1 ≤ _
          omega
  refine ⟨fun f => ?_, fun p q hp h => ?_⟩
  · unfold tUn
    rw [if_neg (show ¬ (tTk L (tW 6) (.inr f)).1 = true from fun z => by cases z), if_neg (show ¬ (tTk L (tW 7) (.inr f)).1 = true from fun z => by cases z), if_neg (show ¬ (tTs L 40 (.inr f)).1 = true from fun z => by cases z)]
    have : (tNm L (.inr f)).1 = none := by
      cases e : (tNm L (.inr f)).1 with
      | none => rfl
      | some x =>
        obtain ⟨-, p, hp, -⟩ := (tNmA_ok 7 0 (.inr f) rfl).1 x e
        cases hp
    rw [this]
    rfl
  · unfold tUn at h ⊢
    by_cases c6 : (tTk L (tW 6) (.inl p)).1 = true
    · rw [if_pos c6] at h ⊢
      obtain ⟨p', e', i', e2⟩ := tTk_ok c6
      cases e'
      have le := tIs_le hp i'
      have g1 := tSk_ge L (p + (tW 6).length)
      have w3 := (tW_at 6 (by decide)).2.2.2.2
      obtain ⟨a1, a2, a3, a4⟩ := tw 6 _ (.inl p) (by decide) (by decide) _ q e2 (tSk_le L le) h
      exact ⟨by omega, a2, by omega, a4⟩
    rw [if_neg c6] at h ⊢
    by_cases c7 : (tTk L (tW 7) (.inl p)).1 = true
    · rw [if_pos c7] at h ⊢
      obtain ⟨p', e', i', e2⟩ := tTk_ok c7
      cases e'
      have le := tIs_le hp i'
      have g1 := tSk_ge L (p + (tW 7).length)
      have w3 := (tW_at 7 (by decide)).2.2.2.2
      obtain ⟨a1, a2, a3, a4⟩ := tw 7 _ (.inl p) (by decide) (by decide) _ q e2 (tSk_le L le) h
      exact ⟨by omega, a2, by omega, a4⟩
    rw [if_neg c7] at h ⊢
    by_cases cb : (tTs L 40 (.inl p)).1 = true
    · rw [if_pos cb] at h ⊢
      obtain ⟨p', e', i', e2⟩ := tTs_ok cb
      cases e'
      have g1 := tSk_ge L (p + 1)
      have g2 := tSk_le L (show p + 1 ≤ L.length by omega)
      unfold tBr at h ⊢
      by_cases g : 6 ≤ o
      · rw [if_pos g] at h
        exact absurd h tFl_no
      · rw [if_neg g] at h ⊢
        dsimp only at h ⊢
        obtain ⟨G1, G2⟩ := hR (by omega)
        obtain ⟨p3, e3, l3, m3⟩ := tSg_lt h
        rw [e2] at e3 ⊢
        obtain ⟨a1, a2, a3, a4⟩ := G2 _ p3 g2 e3
        exact ⟨by omega, m3, by omega, a4⟩
    rw [if_neg cb] at h ⊢
    cases e : (tNm L (.inl p)).1 with
    | some x =>
      rw [e] at h
      dsimp only at h ⊢
      obtain ⟨x7, p', e', i', e2⟩ := (tNmA_ok 7 0 (.inl p) rfl).1 x e
      cases e'
      have h2 : (tNmA L (.inl p) 7 0).2 = .inl q := h
      rw [e2] at h2
      cases h2
      have le := tIs_le hp i'
      have g1 := tSk_ge L (p + (tW (8 + x)).length)
      have w3 := (tW_at (8 + x) (by omega)).2.2.2.2
      refine ⟨by omega, tSk_le L le, ?_, wfE_name x7⟩
      show 1 ≤ _
      omega
    | none =>
      rw [e] at h
      dsimp only at h ⊢
      obtain ⟨a1, a2, a3⟩ := tNum_lt hp h
      refine ⟨a1, a2, ?_, wfE_num (by omega)⟩
      show 1 ≤ _
      omega
theorem sGd_ch {L : List Nat} {U : rdE → sL × rdE} (hU : sGd L U) {a b x y : Nat} (hx : 2 ≤ x ∧ x < 8) (hy : 2 ≤ y ∧ y < 8) : ∀ (d : Nat) (P : sL) (τ : rdE), (∀ f, τ = .inr f → (tCh L U a b x y d P τ).2 = .inr f) ∧ ∀ p0 p q, τ = .inl p → p ≤ L.length → P.length ≤ p - p0 → p0 < p → wfE P → (tCh L U a b x y d P τ).2 = .inl q → p ≤ q ∧ q ≤ L.length ∧ (tCh L U a b x y d P τ).1.length ≤ q - p0 ∧ wfE (tCh L U a b x y d P τ).1 := by
  intro d
  induction d with
  | zero => exact fun P τ => ⟨fun f e => e, fun p0 p q e hp hP h0 hw h => by rw [e] at h; cases h; exact ⟨Nat.le_refl _, hp, hP, hw⟩⟩
  | succ d ih =>
    have step : ∀ (c z : Nat), (2 ≤ z ∧ z < 8) → ∀ (P : sL) (τ : rdE), (tTs L c τ).1 = true → (∀ f, τ = .inr f → (tCh L U a b x y d (P ++ (U (tTs L c τ).2).1 ++ [(z, 0)]) (U (tTs L c τ).2).2).2 = .inr f) ∧ ∀ p0 p q, τ = .inl p → p ≤ L.length → P.length ≤ p - p0 → p0 < p → wfE P → (tCh L U a b x y d (P ++ (U (tTs L c τ).2).1 ++ [(z, 0)]) (U (tTs L c τ).2).2).2 = .inl q → p ≤ q ∧ q ≤ L.length ∧ (tCh L U a b x y d (P ++ (U (tTs L c τ).2).1 ++ [(z, 0)]) (U (tTs L c τ).2).2).1.length ≤ q - p0 ∧ wfE (tCh L U a b x y d (P ++ (U (tTs L c τ).2).1 ++ [(z, 0)]) (U (tTs L c τ).2).2).1 := by
      intro c z hz P τ hc
      obtain ⟨p, e1, i1, e2⟩ := tTs_ok hc
      subst e1
      refine ⟨fun f e => (by cases e), fun p0 p' q e hp hP h0 hw h => ?_⟩
      cases e
      have g1 := tSk_ge L (p + 1)
      have g2 := tSk_le L (show p + 1 ≤ L.length by omega)
      cases eU : (U (tTs L c (.inl p)).2).2 with
      | inr f =>
        rw [eU] at h
        have := (ih (P ++ (U (tTs L c (.inl p)).2).1 ++ [(z, 0)]) (.inr f)).1 f rfl
        rw [this] at h
        cases h
      | inl p2 =>
        rw [eU] at h
        rw [e2] at eU h ⊢
        obtain ⟨a1, a2, a3, a4⟩ := hU.2 _ p2 g2 eU
        obtain ⟨b1, b2, b3, b4⟩ := (ih (P ++ (U (.inl (tSk L (p + 1)))).1 ++ [(z, 0)]) (.inl p2)).2 p0 p2 q rfl a2 (by
          rw [List.length_append, List.length_append]
          show _ + _ + 1 ≤ _
          omega) (by omega) (wfE_op hw a4 hz.1 hz.2) h
        exact ⟨by omega, b2, b3, b4⟩
    intro P τ
    rw [tCh]
    by_cases ca : (tTs L a τ).1 = true
    · rw [if_pos ca]
      exact step a x hx P τ ca
    · rw [if_neg ca]
      by_cases cb : (tTs L b τ).1 = true
      · rw [if_pos cb]
        exact step b y hy P τ cb
      · rw [if_neg cb]
        exact ⟨fun f e => e, fun p0 p q e hp hP h0 hw h => by rw [e] at h; cases h; exact ⟨Nat.le_refl _, hp, hP, hw⟩⟩
theorem sGd_of_ch {L : List Nat} {U : rdE → sL × rdE} (hU : sGd L U) {a b x y : Nat} (hx : 2 ≤ x ∧ x < 8) (hy : 2 ≤ y ∧ y < 8) (d : Nat) : sGd L (fun τ => tCh L U a b x y d (U τ).1 (U τ).2) := by
  refine ⟨fun f => (sGd_ch hU hx hy d _ _).1 f (hU.1 f), fun p q hp h => ?_⟩
  cases e : (U (.inl p)).2 with
  | inr f =>
    have h2 : (tCh L U a b x y d (U (.inl p)).1 (U (.inl p)).2).2 = .inl q := h
    rw [(sGd_ch hU hx hy d _ _).1 f e] at h2
    cases h2
  | inl p1 =>
    obtain ⟨a1, a2, a3, a4⟩ := hU.2 p p1 hp e
    obtain ⟨b1, b2, b3, b4⟩ := (sGd_ch hU hx hy (a := a) (b := b) d (U (.inl p)).1 (U (.inl p)).2).2 p p1 q e a2 a3 a1 a4 h
    exact ⟨by omega, b2, b3, b4⟩
theorem sGd_pd {L : List Nat} {RC : tRC} {o : Nat} (hR : o < 6 → sGd L (RC (o + 1))) : sGd L (tPd L RC o) := sGd_of_ch (sGd_un hR) (by decide) (by decide) 150
theorem sGd_su {L : List Nat} {RC : tRC} {o : Nat} (hR : o < 6 → sGd L (RC (o + 1))) : sGd L (tSu L RC o) := sGd_of_ch (sGd_pd hR) (by decide) (by decide) 150
theorem sGd_sm {L : List Nat} : ∀ (D o : Nat), o ≤ 6 → 7 ≤ o + D → sGd L (tSm L D o) := by
  intro D
  induction D with
  | zero => intro o h1 h2; omega
  | succ D ih => intro o h1 h2; exact sGd_su (fun h => ih (o + 1) (by omega) (by omega))
end
