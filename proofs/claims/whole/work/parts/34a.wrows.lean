/-! METHODS WITH A TABLE OF THEIR OWN -/
def zMetW (l : Launch) (y : MethodName) (cc : ByteArray) (nL : Nat) (ret : Option FieldType) (hh : List (Nat × Nat × Nat × Nat)) (fr lo mc ms : Nat) (av : List Value) (G : zG) (v : zV) (o : Option Value) (v' : zV) : Prop :=
  Met l y (Cond.codeWith y cc nL ret hh :: zTbl) { frames := fr, cells := mc, slots := ms, locals := lo } (va_Pc av (zSt G v)) (fun _ st oc t => (oc = .returned o ∧ va_P G.1 vwCl (zW G v') t.heap) ∧ va_F (zA G) st t) mc ms (zA G)
theorem zMW_of {l : Launch} {y : MethodName} {cc : ByteArray} {nL : Nat} {ret : Option FieldType} {hh : List (Nat × Nat × Nat × Nat)} {fr lo mc ms : Nat} {av : List Value} {G : zG} {v : zV} {o : Option Value} {v' : zV} {own : String} (hy : plainName y.cls = true) (ho : y.cls = own) (hav : (lg_sl av).length ≤ nL)
    (body : ∀ x : zCx, x.2.1 = l → zF x G cc nL own fr lo → x.2.2.2.2.2.2.2.2.1.sig.returnType = ret → x.2.2.2.2.2.2.2.2.1.locks = false → mc ≤ x.2.2.2.1.cells ∧ ms ≤ x.2.2.2.1.slots → x.2.2.2.2.2.2.2.2.2.exceptionTable.toList = tableOf hh → zJ x G nL (zQ x G o v' mc ms) 0 0 0 (lv_args 0 av) [] v) : zMetW l y cc nL ret hh fr lo mc ms av G v o v' := by
  unfold zMetW Met
  refine MetFree.of_bodyS (code := cc) (maxLocals := nL) (ret := ret) hy ?_ ?_
  · intro args s m h hn
    obtain ⟨m9, meth, c, hn9, h1, h2, h3, h4, -, h5, h6, -⟩ := Cond.codeWith_spec (atoms_spec (ws := Cond.codeWith y cc nL ret hh :: zTbl) h _ List.mem_cons_self)
    cases hn.symm.trans hn9
    exact ⟨meth, c, h1, h2, h3, h4, h5, h6⟩
  · intro p e s m args below meth c s₁ B hml hv _
    obtain ⟨rfl, hP, hK, hO⟩ := hv
    have hh0 : s₁.heap = s.heap := by rw [B.state]; rfl
    have hts := atoms_spec (ws := Cond.codeWith y cc nL ret hh :: zTbl) B.pre
    have hown : s.vm.findClass y.cls = some m.cls := findClass_of_methodNamed B.named
    have h := body (p, l, e, { frames := fr, cells := mc, slots := ms, locals := lo }, s, m, av.toArray, below, meth, c) rfl ⟨B.exec, B.bytes, hml, by rw [← ho]; exact hown, fun w hw => hts w (List.mem_cons_of_mem _ hw), hK, Nat.le_refl _, Nat.le_refl _, hO⟩ B.returns B.notSynchronized ⟨Nat.le_refl _, Nat.le_refl _⟩ (vx_table (x := y) B (hts _ List.mem_cons_self))
    have hl := lv_entry av (n := nL) hav
    have h2 := h s.heap [] _ hP va_S.rf hl
    rw [← lg_entry_eq] at h2
    obtain ⟨t, a1, o, b1, b2, b3⟩ := h2 s₁ hh0 (Stand.of_body B)
    exact ⟨t, o, a1, b1, b2, ⟨b3.1, b3.2⟩⟩
def zcatch (m : Option (Nat × Int32 × zV)) (out : Nat) (e1 e2 : Option Int32) : Option (Int32 × zV) := match m with
  | none => none
  | some q => if q.1 = 0 then zix 0 (zlen out) (some (0, zup q.2.2 out 0 q.2.1)) else if q.1 = 1 then (match e1 with | none => none | some k => some (k, q.2.2)) else (match e2 with | none => none | some k => some (k, q.2.2))
theorem zcatch_ex {m : Option (Nat × Int32 × zV)} {out : Nat} {e1 e2 : Option Int32} {r : Int32} {w : zV} (h : zcatch m out e1 e2 = some (r, w)) : (∃ a v1, m = some (0, a, v1) ∧ vp_in 0 (zlen out) ∧ r = 0 ∧ w = zup v1 out 0 a) ∨ (∃ a, m = some (1, a, w) ∧ e1 = some r) ∨ ∃ c a, m = some (c + 2, a, w) ∧ e2 = some r := by
  unfold zcatch at h
  split at h
  · cases h
  · rename_i q
    obtain ⟨c, a, v1⟩ := q
    by_cases hc : c = 0
    · subst hc
      obtain ⟨h1, h2⟩ := zix_ex h
      cases h2
      exact Or.inl ⟨a, v1, rfl, h1, rfl, rfl⟩
    · rw [if_neg hc] at h
      by_cases hd : c = 1
      · subst hd
        rw [if_pos rfl] at h
        cases e1 with
        | none => cases h
        | some k => cases h; exact Or.inr (Or.inl ⟨a, rfl, rfl⟩)
      · rw [if_neg hd] at h
        obtain ⟨d, rfl⟩ : ∃ d, c = d + 2 := ⟨c - 2, by omega⟩
        cases e2 with
        | none => cases h
        | some k => cases h; exact Or.inr (Or.inr ⟨d, a, rfl, rfl⟩)
theorem zEx2 (c : Nat) : zEx (c + 1 + 1) = "java/lang/IllegalArgumentException" := by
  unfold zEx
  rw [if_neg (by omega)]
theorem z_nc {G : zG} {U : State} (h : zOld G U) : va_Nc "java/lang/IllegalArgumentException" "java/util/NoSuchElementException" U := by
  obtain ⟨s0, a0, h1, h2, h3, h4, h5, h6⟩ := h
  exact (va_Nc.of ((flat_of_before _ h2) _ zqk_34)).moved h4.alike
section ZC
variable {x : zCx} {G : zG} {cc : ByteArray} {nL : Nat} {own : String} {fr lo : Nat} {Q : State → Prop} {cs sl pc : Nat} {ls : List (Nat × Value)} {st : List Value} {v : zV}
theorem z_xcallC (F : zF x G cc nL own fr lo) {y : MethodName} {cc' : ByteArray} {nL' fr' lo' mc ms n i c N idx cd : Nat} {T0 : u_T} {ret' : Option FieldType} {o : Option Value} {v1 : zV} {C E : String} (pre : List ExceptionTableEntry) (z : ExceptionTableEntry) (suf : List ExceptionTableEntry) (htab : x.2.2.2.2.2.2.2.2.2.exceptionTable.toList = pre ++ z :: suf) (hE : zEx (cd + 1) = E)
    (hpass : ∀ z' ∈ pre, z'.catchType ≠ 0 ∧ ∃ nm : String, Cond.classLink own z'.catchType nm ∈ zTbl ∧ va_Nc E nm x.2.2.2.2.1) (hcov : covers z pc = true) (h0 : z.catchType ≠ 0) (hlink : Cond.classLink own z.catchType E ∈ zTbl) (hcast : Cond.castable E E ∈ lw_tbl)
    (As rest : List Value) (hM : zXM x.2.1 y cc' nL' ret' fr' lo' mc ms (zr G i :: As) G v (cd + 1) o v1) (hI : zMI y cc' nL' ret' n) (hc : vwCl[c]? = some (C, T0, N)) (hT : zty G i 1 c)
    (hl1 : Cond.methodLink own idx y ∈ zTbl) (hl2 : Cond.instanceMethod y ∈ zTbl) (hl3 : Cond.selects C y y ∈ zTbl) (hd : decode cc pc = .ok (.invokevirtual idx, 3)) (hn : As.length = n) (hroom : fr' + 1 ≤ fr ∧ 8 + (nL' + 11) + lo' ≤ lo) (hst : st = As.reverse ++ zr G i :: rest) (hW : (rest.map fun q => q.category).sum ≤ 8) (hcs : cs + mc ≤ x.2.2.2.1.cells ∧ sl + ms ≤ x.2.2.2.1.slots)
    (k : ∀ q : Nat, zJ x G nL Q (cs + mc) (sl + ms) z.handlerPc ls [.ref q] v1) : zJ x G nL Q cs sl pc ls st v :=
  z_xcallG F As rest hM hI hc hT hl1 hl2 hl3 hd hn hroom hst hW hcs (fun _ H locs la ce q hP hS hl hce hv hcl => by
    rw [hE] at hcl
    exact vx_catch F.2.2.2.1 pre z suf htab (fun z' hz' => Or.inr ⟨(hpass z' hz').1, (hpass z' hz').2.elim (fun nm h => ⟨nm, F.2.2.2.2.1 _ h.1, h.2⟩)⟩) hcov h0 (F.2.2.2.2.1 _ hlink) (z_word G F.2.2.2.2.2.2.2.2 hcast) hce hv hcl (k q H locs la hP hS hl)) (fun h => absurd h (Nat.succ_ne_zero _))
end ZC
