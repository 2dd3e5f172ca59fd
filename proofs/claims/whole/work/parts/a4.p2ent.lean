/-! THE ENTRY: the machine at the start of the law -/
section
theorem zin_RX9 : Cond.instantiable RX9 17 ∈ zTbl := zTbl_of (zin_1 (List.mem_of_getElem? (i := 25) (by decide +kernel))) rfl
theorem zin_RX10 : Cond.instantiable RX10 60 ∈ zTbl := zTbl_of (zin_7 (List.mem_of_getElem? (i := 42) (by decide +kernel))) rfl
theorem zcl_L_8 : Cond.classLink RL 8 RX9 ∈ zTbl := zTbl_of (zin_1 (List.mem_of_getElem? (i := 24) (by decide +kernel))) rfl
theorem zcl_L_130 : Cond.classLink RL 130 RX10 ∈ zTbl := zTbl_of (zin_7 (List.mem_of_getElem? (i := 41) (by decide +kernel))) rfl
theorem zcl_X10_44 : Cond.classLink RX10 44 "[[I" ∈ zTbl := zTbl_of (zin_7 (List.mem_of_getElem? (i := 47) (by decide +kernel))) rfl
theorem zao_int : Cond.arrayOver (.array .int) ∈ lw_tbl := zin_7 (List.mem_of_getElem? (i := 48) (by decide +kernel))
theorem z_aoI {A : Array Value} {U : State} (h : (Cond.arrayOver (.array .int)).before A U = true) : ∃ (comp c : ClassId) (k : Class), U.vm.findClass (FieldType.array .int).toString = some comp ∧ (U.vm.classes.findIdx? fun (x : Class) => match x.kind with | .array component _ => component == comp | _ => false) = some c ∧ U.vm.classes[c]? = some k ∧ k.kind = .array comp (.array .int) ∧ U.vm.findClass ("[" ++ (FieldType.array .int).toString) = some c := by
  unfold Cond.before at h
  simp only [Cond.holds, Cond.value, beq_iff_eq] at h
  cases e1 : U.vm.findClass (FieldType.array .int).toString with
  | none => simp [e1] at h
  | some comp =>
    simp only [e1, Option.bind_some, Option.bind_eq_some_iff, Option.map_eq_some_iff] at h
    obtain ⟨c, e2, k, e3, e4⟩ := h
    obtain ⟨zq6, zq5, -⟩ := Array.findIdx?_eq_some_iff_getElem.mp e2
    have zq7 : U.vm.classes[c] = k := (Array.getElem?_eq_some_iff.mp e3).2
    rw [zq7] at zq5
    cases e6 : k.kind with
    | array component ty =>
      rw [e6] at e4 zq5
      have zq4 : (decide (ty = FieldType.array .int) && decide (U.vm.findClass ("[" ++ (FieldType.array .int).toString) = some c)) = true := e4
      rw [Bool.and_eq_true, decide_eq_true_eq, decide_eq_true_eq] at zq4
      exact ⟨comp, c, k, rfl, e2, e3, by rw [e6, eq_of_beq zq5, zq4.1], zq4.2⟩
    | _ =>
      rw [e6] at e4
      simp at e4
theorem z_aoA {u U : State} (hvm : u.vm.Alike U.vm) {A B : Array Value} (h : (Cond.arrayOver (.array .int)).before A u = true) : (Cond.arrayOver (.array .int)).before B U = true := by
  obtain ⟨comp, c, k, h1, h2, h3, h4, h5⟩ := z_aoI h
  obtain ⟨k', hk', he⟩ := hvm.2.2 _ _ h3
  have hi : (U.vm.classes.findIdx? fun (x : Class) => match x.kind with | .array component _ => component == comp | _ => false) = some c := by
    have hb : U.vm.bare = u.vm.bare := by first | exact hvm.bare_eq | exact hvm.bare_eq.symm
    have g1 := va_idx_bare U.vm comp
    have g2 := va_idx_bare u.vm comp
    rw [hb] at g1
    exact (g1.symm.trans g2).trans h2
  have hkind : k'.kind = .array comp (.array .int) := by rw [he]; exact h4
  have f1 : U.vm.findClass (FieldType.array .int).toString = some comp := by rw [hvm.findClass]; exact h1
  have f2 : U.vm.findClass ("[" ++ (FieldType.array .int).toString) = some c := by rw [hvm.findClass]; exact h5
  unfold Cond.before
  unfold Cond.holds
  simp only [Cond.value]
  rw [f1, Option.bind_some]
  refine (congrArg (fun o : Option Nat => (o.bind (fun c => (U.vm.classes[c]?).map fun (k : Class) => match k.kind with | .array _ ty => decide (ty = FieldType.array .int) && decide (U.vm.findClass ("[" ++ (FieldType.array .int).toString) = some c) | _ => false) == some true)) hi).trans ?_
  simp [hk', hkind, f2]
theorem z_lits {s : State} {args : Array Value} (h : (Jvm.Cond.and given_1 narrow_1).before args s = true) : ∃ g : Nat → Nat × Nat, ∀ i, i < 16 → (ztm i).eval args s none [] s = some (.ref (g i).1) ∧ (Term.field (ztm i) "java/lang/String" "value" "[B").eval args s none [] s = some (.ref (g i).2) := by
  have hs : ∀ w ∈ zPre, w.before args s = true := flat_of_before _ h
  have h0 : ∀ i : Nat, ∃ q : Nat × Nat, i < 16 → (ztm i).eval args s none [] s = some (.ref q.1) ∧ (Term.field (ztm i) "java/lang/String" "value" "[B").eval args s none [] s = some (.ref q.2) := by
    intro i
    by_cases hi : i < 16
    · obtain ⟨a, c, cA, kA, q1, -⟩ := Cond.exactly_spec (args := args) (first := s) (o := none) (s := s) (idx := []) (t := ztm i) (cls := "java/lang/String") (hs _ (zq_ex i hi))
      obtain ⟨t, cell, ht, -⟩ := Term.length_spec (va_eqt (hs _ (zq_le i hi)))
      exact ⟨(a, t), fun _ => ⟨q1, ht⟩⟩
    · exact ⟨(0, 0), fun q => absurd q hi⟩
  exact Classical.axiomOfChoice h0
def zGo (D : va_G) (g : Nat → Nat × Nat) (c : Nat → ClassId) (h N : Nat) : zG := (D, (fun k => if k < 5 then c k else if k < 200 then (g (k - 100)).1 else if k < 300 then (g (k - 200)).2 else N), h)
theorem z_start {s : State} {args : Array Value} (hts : ∀ w ∈ lw_tbl, w.before args s = true) (h : (Jvm.Cond.and given_1 narrow_1).before args s = true) : ∃ (D : va_G) (g : Nat → Nat × Nat) (c : Nat → ClassId), ∀ N, va_K D vwCl (zTy (zGo D g c s.heap.size N)) s ∧ zOld (zGo D g c s.heap.size N) s := by
  have ht : ∀ w ∈ zTbl, w.before args s = true := fun w hw => hts w (List.mem_filter.mp hw).1
  obtain ⟨g, hg⟩ := z_lits h
  obtain ⟨c0, i0, k0⟩ := u_known (C := RX0) (T := TX0) (N := 16) (n := 16) ht uw_0 (ht _ zin_RX0)
  obtain ⟨c1, i1, k1⟩ := u_known (C := RX1) (T := TX1) (N := 3) (n := 3) ht uw_1 (ht _ zin_RX1)
  obtain ⟨c2, i2, k2⟩ := u_known (C := RX2) (T := TX2) (N := 3) (n := 3) ht uw_2 (ht _ zin_RX2)
  obtain ⟨c3, i3, k3⟩ := u_known (C := RX3) (T := TX3) (N := 3) (n := 3) ht uw_3 (ht _ zin_RX3)
  obtain ⟨c4, i4, k4⟩ := u_known (C := RX4) (T := TX4) (N := 13) (n := 13) ht uw_4 (ht _ zin_RX4)
  obtain ⟨c5, i5, k5⟩ := u_known (C := RX5) (T := TX5) (N := 4) (n := 4) ht uw_5 (ht _ zin_RX5)
  obtain ⟨c6, i6, k6⟩ := u_known (C := RX6) (T := TX6) (N := 8) (n := 8) ht uw_6 (ht _ zin_RX6)
  obtain ⟨c7, i7, k7⟩ := u_known (C := RX7) (T := TX7) (N := 13) (n := 13) ht uw_7 (ht _ zin_RX7)
  obtain ⟨c8, i8, k8⟩ := u_known (C := RX8) (T := TX8) (N := 6) (n := 6) ht uw_8 (ht _ zin_RX8)
  obtain ⟨c9, i9, k9⟩ := u_known (C := RX9) (T := TX9) (N := 17) (n := 17) ht uw_9 (ht _ zin_RX9)
  obtain ⟨c10, i10, k10⟩ := u_known (C := RX10) (T := TX10) (N := 60) (n := 60) ht uw_10 (ht _ zin_RX10)
  obtain ⟨D, hD⟩ : ∃ D : va_G, ∀ (k : Nat) (q : vw_C), vwCl[k]? = some q → u_Kn s q.1 q.2.1 q.2.2 (D.1 k) (D.2 k) := by
    refine ⟨(fun k => if k = 0 then c0 else if k = 1 then c1 else if k = 2 then c2 else if k = 3 then c3 else if k = 4 then c4 else if k = 5 then c5 else if k = 6 then c6 else if k = 7 then c7 else if k = 8 then c8 else if k = 9 then c9 else c10, fun k => if k = 0 then i0 else if k = 1 then i1 else if k = 2 then i2 else if k = 3 then i3 else if k = 4 then i4 else if k = 5 then i5 else if k = 6 then i6 else if k = 7 then i7 else if k = 8 then i8 else if k = 9 then i9 else i10), ?_⟩
    intro k q hq
    match k, hq with
    | 0, hq => cases hq; exact k0
    | 1, hq => cases hq; exact k1
    | 2, hq => cases hq; exact k2
    | 3, hq => cases hq; exact k3
    | 4, hq => cases hq; exact k4
    | 5, hq => cases hq; exact k5
    | 6, hq => cases hq; exact k6
    | 7, hq => cases hq; exact k7
    | 8, hq => cases hq; exact k8
    | 9, hq => cases hq; exact k9
    | 10, hq => cases hq; exact k10
    | k + 11, hq => cases hq
  obtain ⟨aI, bI, eI, fI, gI, hI⟩ := Cond.arrayClass_spec (ht _ zac_int)
  obtain ⟨aB, bB, eB, fB, gB, hB⟩ := Cond.arrayClass_spec (ht _ zac_byte)
  obtain ⟨aL, bL, eL, fL, gL, hL⟩ := Cond.arrayClass_spec (ht _ zac_long)
  obtain ⟨e2, a2, b2, m2, -, g2, n2, f2⟩ := z_aoI (hts _ zao_int)
  obtain ⟨eR, aR, bR, mR, -, gR, nR, fR⟩ := Cond.arrayOver_spec (hts _ zao_row)
  refine ⟨D, g, fun k => if k = 0 then aI else if k = 1 then aB else if k = 2 then aL else if k = 3 then a2 else aR, fun N => ⟨⟨hD, fun k q hq => ?_⟩, s, args, hts, h, rfl, State.WarmedH.refl s, fun _ _ => rfl, fun k hk => ?_⟩⟩
  · match k, hq with
    | 0, hq => cases hq; exact ⟨fun n z => ⟨fun k h => (by cases h), bI, gI, eI, hI⟩, fI⟩
    | 1, hq => cases hq; exact ⟨fun n z => ⟨fun k h => (by cases h), bB, gB, eB, hB⟩, fB⟩
    | 2, hq => cases hq; exact ⟨fun n z => ⟨fun k h => (by cases h), bL, gL, eL, hL⟩, fL⟩
    | 3, hq => cases hq; exact ⟨fun n z => ⟨fun k h => (by cases h), b2, g2, e2, n2⟩, f2⟩
    | 4, hq => cases hq; exact ⟨fun n z => ⟨fun k h => (by cases h), bR, gR, eR, nR⟩, bR, eR, gR, nR, mR, fR⟩
    | k + 5, hq => cases hq
  · obtain ⟨h1, h2⟩ := hg k hk
    unfold zGo
    dsimp only
    rw [if_neg (by omega), if_pos (by omega), if_neg (by omega), if_neg (by omega), if_pos (by omega), show 100 + k - 100 = k by omega, show 200 + k - 200 = k by omega]
    exact ⟨h1, h2⟩
end
