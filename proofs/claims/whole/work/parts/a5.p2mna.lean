/-! multianewarray: N rows of K ints -/
def bmna (G : zG) (ce : Nat → va_E) (n N K : Nat) : Nat → va_E := fun j => if j = n then .inl (G.2.1 3, N, .inr (.inr (.inr (.inr (fun i => if i < N then some (G.2.2 + n + 1 + i) else none))))) else if n < j ∧ j ≤ n + N then .inl (G.2.1 0, K, .inl (fun _ => 0)) else ce j
theorem z_outer (c : ClassId) (N h0 : Nat) : ∀ i : Nat, Jvm.Free.Multi.outerC c N h0 i = arrV c N (fun j => va_rf (if j < i then some (h0 + 1 + j) else none))
  | 0 => by
    show ({ cls := c, slots := Array.replicate N .null, vm := .none } : Cell) = _
    rw [arrV_new]
    refine congrArg (arrV c N) (funext fun j => ?_)
    simp [va_rf]
  | i + 1 => by
    show (Jvm.Free.Multi.outerC c N h0 i).setSlot i (.ref (h0 + 1 + i)) = _
    rw [z_outer c N h0 i, arrV_store]
    refine congrArg (arrV c N) (funext fun j => ?_)
    by_cases e : j = i
    · subst e
      simp [updV, va_rf]
    · by_cases h : j < i
      · simp [updV, e, h, Nat.lt_succ_of_lt h]
      · simp [updV, e, h, show ¬ j < i + 1 by omega]
section ZM
variable {x : zCx} {G : zG} {cc : ByteArray} {nL : Nat} {own : String} {fr lo : Nat} {Q : State → Prop} {cs sl pc : Nat} {ls : List (Nat × Value)} {st : List Value} {n : Nat} {ce : Nat → va_E}
theorem b_mna (F : zF x G cc nL own fr lo) {idx : Nat} (hcl : Cond.classLink own idx "[[I" ∈ zTbl) (hov : Cond.arrayOver (.array .int) ∈ lw_tbl) (hac : Cond.arrayClass .int ∈ zTbl) {m k : Int32} {N' K' : Nat} (hm : ¬ m < 0) (hk : ¬ k < 0) (hN : m.toNatClampNeg = N') (hK : k.toNatClampNeg = K') (hb1 : N' * 4 ≤ 536870912) (hb2 : K' * componentBytes .int ≤ 536870912) (hb3 : K' ≤ 536870912) (hcs : cs + (1 + N') ≤ x.2.2.2.1.cells ∧ sl + (N' + N' * K') ≤ x.2.2.2.1.slots) (hd : decode cc pc = .ok (.multianewarray idx 2, 4)) (kk : zB x G nL Q (cs + 1 + N') (sl + N' + N' * K') (pc + 4) ls (zr G n :: st) (n + 1 + N') (bmna G ce n N' K')) : zB x G nL Q cs sl pc ls (.int k :: .int m :: st) n ce := by
  subst hN
  subst hK
  refine b_sized F (fun H locs la hP hS hl hn hsz => ?_)
  intro T hT Xs
  obtain ⟨s0, a0, h1, h2, h3, h4, h5, h6⟩ := F.2.2.2.2.2.2.2.2
  obtain ⟨vm₁, cA, comp, -, fA, fC, hO, -, X', step⟩ := Xs.multianewarray2F F.1 F.2.2.2.1 (F.2.2.2.2.1 _ hcl) (z_aoA h4.alike (h1 _ hov)) (F.2.2.2.2.1 _ hac) (g := F0 x.2.2.2.2.2.1 pc la (.int k :: .int m :: st)) rfl (by rw [F.2.1]; exact hd) rfl hm hk hb1 hb2 hb3 rfl rfl hcs.1 hcs.2
  have hcA : cA = G.2.1 3 := Option.some.inj (fA.symm.trans (F.2.2.2.2.2.1.2 3 _ rfl).2)
  have hcp : comp = G.2.1 0 := Option.some.inj (fC.symm.trans (F.2.2.2.2.2.1.2 0 _ rfl).2)
  subst hcA
  subst hcp
  generalize hF : Jvm.Free.Multi.fill (T.setVm vm₁) (G.2.1 3) (G.2.1 0) m.toNatClampNeg k.toNatClampNeg (defaultValue .int) m.toNatClampNeg = F9 at X' step
  have hTh : (T.setVm vm₁).heap = H := hT
  obtain ⟨f1, f2, -, -⟩ := Jvm.Free.Multi.fill_facts (T.setVm vm₁) (G.2.1 3) (G.2.1 0) m.toNatClampNeg k.toNatClampNeg (defaultValue .int) m.toNatClampNeg
  rw [hF, hTh] at f1 f2
  have hold : ∀ q : Nat, q < H.size → F9.heap[q]? = H[q]? := fun q hq => by
    have := Jvm.Free.Multi.fill_old (T.setVm vm₁) (G.2.1 3) (G.2.1 0) m.toNatClampNeg k.toNatClampNeg (defaultValue .int) (a := q) (by rw [hTh]; exact hq) m.toNatClampNeg
    rw [hF, hTh] at this
    exact this
  have hrow : ∀ j : Nat, j < m.toNatClampNeg → F9.heap[H.size + 1 + j]? = some (arrV (G.2.1 0) k.toNatClampNeg (fun _ => .int 0)) := fun j hj => by
    have := Jvm.Free.Multi.fill_inner (T.setVm vm₁) (G.2.1 3) (G.2.1 0) m.toNatClampNeg k.toNatClampNeg (defaultValue .int) m.toNatClampNeg j hj
    rw [hF, hTh] at this
    rw [this]
    exact congrArg some (arrV_new _ _ _)
  have hPn : va_P G.1 vwCl (zWb G (n + 1 + m.toNatClampNeg) (bmna G ce n m.toNatClampNeg k.toNatClampNeg)) F9.heap := by
    refine zWb_P (fun i hi => ?_)
    unfold bmna
    by_cases e1 : i = n
    · subst e1
      rw [if_pos rfl]
      show F9.heap[G.2.2 + i]? = some (vp_cell _ _)
      rw [vp_cell_q, ← hsz, f2, z_outer, hsz]
    · rw [if_neg e1]
      by_cases e2 : n < i ∧ i ≤ n + m.toNatClampNeg
      · rw [if_pos e2]
        show F9.heap[G.2.2 + i]? = some (vp_cell _ _)
        have := hrow (i - n - 1) (by omega)
        rw [show H.size + 1 + (i - n - 1) = G.2.2 + i by omega] at this
        rw [this]
        rfl
      · rw [if_neg e2]
        have h9 := zWb_A hP (i := i) (by omega)
        exact h9.kept (hold _ h9.lt)
  obtain ⟨t, a1, b1⟩ := kk F9.heap locs la hPn ⟨by rw [f1]; have := hS.1; omega, fun q h1 h2 => (hold q (Nat.lt_of_lt_of_le h1 hS.1)).trans (hS.2.1 q h1 h2), hS.2.2⟩ hl (by omega) F9 rfl X'
  refine ⟨t, step t ?_, b1⟩
  have e : T.heap.size = G.2.2 + n := by rw [hT, hsz]
  rw [e]
  exact a1
end ZM
