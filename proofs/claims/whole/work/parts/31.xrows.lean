/-! METHODS THAT MAY THROW: c = 0 it returns, 1 NoSuchElementException, else IllegalArgumentException -/
def zEx (c : Nat) : String := if c = 1 then "java/util/NoSuchElementException" else "java/lang/IllegalArgumentException"
def zXc (G : zG) (c : Nat) (o : Option Value) (w : zV) : Array Value → State → Outcome → State → Prop := fun _ st oc t => ((c = 0 ∧ oc = .returned o) ∧ va_P G.1 vwCl (zW G w) t.heap) ∧ va_F (zA G) st t
def zXx (G : zG) (c : Nat) (w : zV) : String → State → State → Prop := fun E st t => ((0 < c ∧ E = zEx c) ∧ va_P G.1 vwCl (zW G w) t.heap) ∧ va_F (zA G) st t
def zXM (l : Launch) (y : MethodName) (cc : ByteArray) (nL : Nat) (ret : Option FieldType) (fr lo mc ms : Nat) (av : List Value) (G : zG) (v : zV) (c : Nat) (o : Option Value) (w : zV) : Prop :=
  vx_Met l y (Cond.code y cc nL ret :: zTbl) { frames := fr, cells := mc, slots := ms, locals := lo } (va_Pc av (zSt G v)) (zXc G c o w) (zXx G c w) mc ms (zA G)
def zXQ (x : zCx) (G : zG) (c : Nat) (o : Option Value) (w : zV) (mc ms : Nat) : State → Prop := vx_MQ x.2.2.2.2.2.2.2.1 (zXc G c o w) (zXx G c w) x.2.2.2.2.2.2.1 x.2.2.2.2.1 mc ms (zA G)
def zbindx {β : Type} (m : Option (Nat × Int32 × zV)) (k : Int32 → zV → Option (Nat × β × zV)) (d : β) : Option (Nat × β × zV) := match m with
  | none => none
  | some q => if q.1 = 0 then k q.2.1 q.2.2 else some (q.1, d, q.2.2)
theorem zbindx_ex {β : Type} {m : Option (Nat × Int32 × zV)} {k : Int32 → zV → Option (Nat × β × zV)} {d : β} {r : Nat × β × zV} (h : zbindx m k d = some r) : (∃ a w, m = some (0, a, w) ∧ k a w = some r) ∨ ∃ c a w, m = some (c + 1, a, w) ∧ r = (c + 1, d, w) := by
  unfold zbindx at h
  split at h
  · cases h
  · rename_i q
    obtain ⟨c, a, w⟩ := q
    by_cases hc : c = 0
    · subst hc
      exact Or.inl ⟨a, w, rfl, h⟩
    · obtain ⟨d, rfl⟩ : ∃ d, c = d + 1 := ⟨c - 1, by omega⟩
      rw [if_neg hc] at h
      exact Or.inr ⟨d, a, w, rfl, (Option.some.inj h).symm⟩
section ZX
variable {x : zCx} {G : zG} {cc : ByteArray} {nL : Nat} {own : String} {fr lo : Nat} {Q : State → Prop} {cs sl pc : Nat} {ls : List (Nat × Value)} {st : List Value} {v : zV}
theorem z_xreti (F : zF x G cc nL own fr lo) {y : Int32} {mc ms : Nat} (hr : x.2.2.2.2.2.2.2.2.1.sig.returnType = some .int) (hlocks : x.2.2.2.2.2.2.2.2.1.locks = false) (h1 : cs ≤ mc) (h2 : sl ≤ ms) (hd : decode cc pc = .ok (.ireturn, 1)) : zJ x G nL (zXQ x G 0 (some (.int y)) v mc ms) cs sl pc ls [.int y] v :=
  z_wide h1 h2 (fun _ _ _ hP hS _ => vx_ret (W.iret F.1 F.2.1 hr (fun _ ht _ => ⟨⟨⟨rfl, rfl⟩, by rw [ht]; exact hP⟩, hS.F ht⟩) hS.2.2 hd hlocks))
theorem z_xretv (F : zF x G cc nL own fr lo) {mc ms : Nat} (hr : x.2.2.2.2.2.2.2.2.1.sig.returnType = none) (hlocks : x.2.2.2.2.2.2.2.2.1.locks = false) (h1 : cs ≤ mc) (h2 : sl ≤ ms) (hd : decode cc pc = .ok (.return_, 1)) : zJ x G nL (zXQ x G 0 none v mc ms) cs sl pc ls [] v :=
  z_wide h1 h2 (fun _ _ _ hP hS _ => vx_ret (W.vret F.1 F.2.1 hr (fun _ ht _ => ⟨⟨⟨rfl, rfl⟩, by rw [ht]; exact hP⟩, hS.F ht⟩) hS.2.2 hd hlocks))
/-- a call that may throw: kx where it throws -/
theorem z_xran {mc ms c : Nat} {rest : List Value} {o : Option Value} {v1 : zV}
    (hr : ∀ (H : Heap) (locs : List Loc) (la : Array Slot), va_P G.1 vwCl (zW G v) H → va_S (zA G) x.2.2.2.2.1.heap H locs → lv_has la nL ls → vx_Run x.1 x.2.1 x.2.2.1 x.2.2.2.1 x.2.2.2.2.1 x.2.2.2.2.2.1 x.2.2.2.2.2.2.1 x.2.2.2.2.2.2.2.1 x.2.2.2.2.2.2.2.2.1 x.2.2.2.2.2.2.2.2.2 H locs cs sl mc ms (F0 x.2.2.2.2.2.1 pc la st) rest (zXc G c o v1 #[]) (zXx G c v1) (zA G))
    (kx : 0 < c → ∀ (H : Heap) (locs : List Loc) (la : Array Slot) (ce : Cell) (q : Addr), va_P G.1 vwCl (zW G v1) H → va_S (zA G) x.2.2.2.2.1.heap H locs → lv_has la nL ls → H[q]? = some ce → ce.vm = .none → x.2.2.2.2.1.vm.findClass (zEx c) = some ce.cls → vx_W x.1 x.2.1 x.2.2.1 x.2.2.2.1 x.2.2.2.2.1 x.2.2.2.2.2.1 x.2.2.2.2.2.2.1 x.2.2.2.2.2.2.2.1 x.2.2.2.2.2.2.2.2.1 x.2.2.2.2.2.2.2.2.2 H locs (cs + mc) (sl + ms) Q (F0 x.2.2.2.2.2.1 pc la rest) q)
    (k : c = 0 → zJ x G nL Q (cs + mc) (sl + ms) (pc + 3) ls (o.toList ++ rest) v1) : zJ x G nL Q cs sl pc ls st v := by
  intro H locs la hP hS hl T hT X
  have hS' : ∀ (st₀ t T' : State) (L : List Loc), st₀.heap = H → T'.heap = t.heap → va_F (zA G) st₀ t → (∀ q ∈ L, (zA G) q.base) → va_S (zA G) x.2.2.2.2.1.heap T'.heap (locs ++ L) := by
    intro st₀ t T' L h0 e1 hF hL
    obtain ⟨hz, hk⟩ := hF
    rw [h0] at hz hk
    exact ⟨Nat.le_trans hS.1 (by rw [e1]; exact hz), fun q h1 h2 => by rw [e1, hk q (Nat.lt_of_lt_of_le h1 hS.1) h2]; exact hS.2.1 q h1 h2, fun q hq => by
      rcases List.mem_append.mp hq with h | h
      · exact hS.2.2 q h
      · exact hL q h⟩
  rcases hr H locs la hP hS hl T hT X with ⟨w, st₀, t, T', L, h0, X', hL, e1, e2, ⟨⟨⟨hc, hv⟩, hp⟩, hF⟩, sp⟩ | ⟨q, st₀, t, T', L, E, ce, h0, X', hL, e1, e2, ⟨⟨⟨hc, hE⟩, hp⟩, hF⟩, hce, hvm, hcl, sp⟩
  · cases hv
    obtain ⟨t2, a1, b1⟩ := k hc T'.heap (locs ++ L) la (by rw [e1]; exact hp) (hS' st₀ t T' L h0 e1 hF hL) hl T' rfl X'
    exact ⟨t2, sp t2 a1, b1⟩
  · subst hE
    obtain ⟨t2, a1, b1⟩ := kx hc T'.heap (locs ++ L) la ce q (by rw [e1]; exact hp) (hS' st₀ t T' L h0 e1 hF hL) hl (by rw [e1]; exact hce) hvm hcl T' rfl X'
    exact ⟨t2, sp.trans a1, b1⟩
theorem z_xcallG (F : zF x G cc nL own fr lo) {y : MethodName} {cc' : ByteArray} {nL' fr' lo' mc ms n i c N idx cd : Nat} {T0 : u_T} {ret' : Option FieldType} {o : Option Value} {v1 : zV} {C : String} (As rest : List Value) (hM : zXM x.2.1 y cc' nL' ret' fr' lo' mc ms (zr G i :: As) G v cd o v1) (hI : zMI y cc' nL' ret' n) (hc : vwCl[c]? = some (C, T0, N)) (hT : zty G i 1 c)
    (hl1 : Cond.methodLink own idx y ∈ zTbl) (hl2 : Cond.instanceMethod y ∈ zTbl) (hl3 : Cond.selects C y y ∈ zTbl) (hd : decode cc pc = .ok (.invokevirtual idx, 3)) (hn : As.length = n) (hroom : fr' + 1 ≤ fr ∧ 8 + (nL' + 11) + lo' ≤ lo) (hst : st = As.reverse ++ zr G i :: rest) (hW : (rest.map fun q => q.category).sum ≤ 8) (hcs : cs + mc ≤ x.2.2.2.1.cells ∧ sl + ms ≤ x.2.2.2.1.slots)
    (kx : 0 < cd → ∀ (H : Heap) (locs : List Loc) (la : Array Slot) (ce : Cell) (q : Addr), va_P G.1 vwCl (zW G v1) H → va_S (zA G) x.2.2.2.2.1.heap H locs → lv_has la nL ls → H[q]? = some ce → ce.vm = .none → x.2.2.2.2.1.vm.findClass (zEx cd) = some ce.cls → vx_W x.1 x.2.1 x.2.2.1 x.2.2.2.1 x.2.2.2.2.1 x.2.2.2.2.2.1 x.2.2.2.2.2.2.1 x.2.2.2.2.2.2.2.1 x.2.2.2.2.2.2.2.2.1 x.2.2.2.2.2.2.2.2.2 H locs (cs + mc) (sl + ms) Q (F0 x.2.2.2.2.2.1 pc la rest) q)
    (k : cd = 0 → zJ x G nL Q (cs + mc) (sl + ms) (pc + 3) ls (o.toList ++ rest) v1) : zJ x G nL Q cs sl pc ls st v := by
  refine z_xran (rest := rest) (fun H locs la hP hS hl => ?_) kx k
  have hpre := zMet_pre F hP hS (av := zr G i :: As)
  have hrec := va_recv F.2.2.2.2.2.1 hP hc (zW_o hT)
  refine vx_runV (C := C) (b := G.2.2 + i) (As := As) (rest := rest) ⟨F.1, F.2.1, F.2.2.1, F.2.2.2.1, F.2.2.2.2.1⟩ hM ⟨⟨rfl, rfl, Nat.le_trans hroom.1 F.2.2.2.2.2.2.1, Nat.le_trans hroom.2 F.2.2.2.2.2.2.2.1, pay_in F.2.2.2.2.1 (zGood hI.1), List.mem_cons_self, F.2.2.2.2.1 _ hI.1, F.2.2.2.2.1 _ hI.2.1, hI.2.2.1, fun sig h => ?_, F.2.2.2.2.1 _ hl1⟩, F.2.2.2.2.1 _ hl2, F.2.2.2.2.1 _ hl3⟩ ⟨hpre.1, hrec, hpre.2⟩ rfl hn hl.1 hst (lv_room hW) hd hcs
  have h2 := hI.2.2.2
  rw [h] at h2
  exact (Option.some.inj h2).symm
/-- .. it returns -/
theorem z_xcall0 (F : zF x G cc nL own fr lo) {y : MethodName} {cc' : ByteArray} {nL' fr' lo' mc ms n i c N idx : Nat} {T0 : u_T} {ret' : Option FieldType} {o : Option Value} {v1 : zV} {C : String} (As rest : List Value) (hM : zXM x.2.1 y cc' nL' ret' fr' lo' mc ms (zr G i :: As) G v 0 o v1) (hI : zMI y cc' nL' ret' n) (hc : vwCl[c]? = some (C, T0, N)) (hT : zty G i 1 c)
    (hl1 : Cond.methodLink own idx y ∈ zTbl) (hl2 : Cond.instanceMethod y ∈ zTbl) (hl3 : Cond.selects C y y ∈ zTbl) (hd : decode cc pc = .ok (.invokevirtual idx, 3)) (hn : As.length = n) (hroom : fr' + 1 ≤ fr ∧ 8 + (nL' + 11) + lo' ≤ lo) (hst : st = As.reverse ++ zr G i :: rest) (hW : (rest.map fun q => q.category).sum ≤ 8) (hcs : cs + mc ≤ x.2.2.2.1.cells ∧ sl + ms ≤ x.2.2.2.1.slots)
    (k : zJ x G nL Q (cs + mc) (sl + ms) (pc + 3) ls (o.toList ++ rest) v1) : zJ x G nL Q cs sl pc ls st v :=
  z_xcallG F As rest hM hI hc hT hl1 hl2 hl3 hd hn hroom hst hW hcs (fun h => absurd h (Nat.lt_irrefl 0)) (fun _ => k)
/-- .. it throws, and nobody catches it here -/
theorem z_xcall1 (F : zF x G cc nL own fr lo) {y : MethodName} {cc' : ByteArray} {nL' fr' lo' mc ms mc9 ms9 n i c N idx cd : Nat} {T0 : u_T} {ret' : Option FieldType} {o o9 : Option Value} {v1 : zV} {C : String} (hnt : ∀ z ∈ x.2.2.2.2.2.2.2.2.2.exceptionTable.toList, False) (hlocks : x.2.2.2.2.2.2.2.2.1.locks = false) (As rest : List Value) (hM : zXM x.2.1 y cc' nL' ret' fr' lo' mc ms (zr G i :: As) G v (cd + 1) o v1) (hI : zMI y cc' nL' ret' n) (hc : vwCl[c]? = some (C, T0, N)) (hT : zty G i 1 c)
    (hl1 : Cond.methodLink own idx y ∈ zTbl) (hl2 : Cond.instanceMethod y ∈ zTbl) (hl3 : Cond.selects C y y ∈ zTbl) (hd : decode cc pc = .ok (.invokevirtual idx, 3)) (hn : As.length = n) (hroom : fr' + 1 ≤ fr ∧ 8 + (nL' + 11) + lo' ≤ lo) (hst : st = As.reverse ++ zr G i :: rest) (hW : (rest.map fun q => q.category).sum ≤ 8) (hcs : cs + mc ≤ x.2.2.2.1.cells ∧ sl + ms ≤ x.2.2.2.1.slots) (h1 : cs + mc ≤ mc9) (h2 : sl + ms ≤ ms9) : zJ x G nL (zXQ x G (cd + 1) o9 v1 mc9 ms9) cs sl pc ls st v :=
  z_xcallG F As rest hM hI hc hT hl1 hl2 hl3 hd hn hroom hst hW hcs (fun _ H locs la ce q hP hS hl hce hv hcl => vx_out (fun z hz => (hnt z hz).elim) hlocks hce hv hcl (fun t ht _ => ⟨⟨⟨Nat.succ_pos _, rfl⟩, by rw [ht]; exact hP⟩, hS.F ht⟩) hS.2.2 h1 h2) (fun h => absurd h (Nat.succ_ne_zero _))
end ZX
theorem zXM_of {l : Launch} {y : MethodName} {cc : ByteArray} {nL : Nat} {ret : Option FieldType} {fr lo mc ms : Nat} {av : List Value} {G : zG} {v : zV} {c : Nat} {o : Option Value} {v' : zV} {own : String} (hy : plainName y.cls = true) (ho : y.cls = own) (hav : (lg_sl av).length ≤ nL)
    (body : ∀ x : zCx, x.2.1 = l → zF x G cc nL own fr lo → x.2.2.2.2.2.2.2.2.1.sig.returnType = ret → x.2.2.2.2.2.2.2.2.1.locks = false → mc ≤ x.2.2.2.1.cells ∧ ms ≤ x.2.2.2.1.slots → (∀ z ∈ x.2.2.2.2.2.2.2.2.2.exceptionTable.toList, False) → zJ x G nL (zXQ x G c o v' mc ms) 0 0 0 (lv_args 0 av) [] v) : zXM l y cc nL ret fr lo mc ms av G v c o v' := by
  refine vx_ofW (cc := cc) (maxL := nL) (ret := ret) hy rfl ?_
  intro p e s m args below meth c s₁ B hml hnt hv
  obtain ⟨rfl, hP, hK, hO⟩ := hv
  have hts := atoms_spec (ws := Cond.code y cc nL ret :: zTbl) B.pre
  have hown : s.vm.findClass y.cls = some m.cls := findClass_of_methodNamed B.named
  have h := body (p, l, e, { frames := fr, cells := mc, slots := ms, locals := lo }, s, m, av.toArray, below, meth, c) rfl ⟨B.exec, B.bytes, hml, by rw [← ho]; exact hown, fun w hw => hts w (List.mem_cons_of_mem _ hw), hK, Nat.le_refl _, Nat.le_refl _, hO⟩ B.returns B.notSynchronized ⟨Nat.le_refl _, Nat.le_refl _⟩ hnt
  have hl := lv_entry av (n := nL) hav
  rw [lg_entry_eq]
  exact h s.heap [] _ hP va_S.rf hl
theorem z_word (G : zG) {U : State} {args : Array Value} (h : zOld G U) {C T : String} (hc : Cond.castable C T ∈ lw_tbl) : (Cond.castable C T).before args U = true := by
  obtain ⟨s0, a0, h1, h2, h3, h4, h5, h6⟩ := h
  exact va_Nw.use rfl (va_Nw.warmC h4 (va_Nw.of rfl (h1 _ hc)))
theorem z_wordD (G : zG) {U : State} {args : Array Value} (h : zOld G U) {y : MethodName} (hc : Cond.declares y ∈ lw_tbl) : (Cond.declares y).before args U = true := by
  obtain ⟨s0, a0, h1, h2, h3, h4, h5, h6⟩ := h
  exact va_Nw.use rfl (va_Nw.warmD h4 (va_Nw.of rfl (h1 _ hc)))
theorem z_zq (G : zG) {U : State} (h : zOld G U) {C n d : String} (hl : Cond.laysStatic C n d ∈ lw_tbl) (hi : Cond.initialized C ∈ lw_tbl) (hr : Cond.isRef (.static C n d) ∈ zPre) : vx_Zq C n d (zA G) U U.heap := by
  obtain ⟨s0, a0, h1, h2, h3, h4, h5, h6⟩ := h
  have hs : ∀ w ∈ zPre, w.before a0 s0 = true := flat_of_before _ h2
  have hA : ∀ a : Nat, a < s0.heap.size → ¬ zA G a := fun a ha hq => by
    have : G.2.2 ≤ a := hq
    omega
  have hq : ∀ a : Nat, a < s0.heap.size → ¬ zA G a → U.heap[a]? = s0.heap[a]? := fun a ha _ => h5 a (by rw [← h3]; exact ha)
  exact ((vx_Zqof (h1 _ hl) (h1 _ hi) (hs _ hr) hA).moved h4.alike).kept hq
section ZX2
variable {x : zCx} {G : zG} {cc : ByteArray} {nL : Nat} {own : String} {fr lo : Nat} {cs sl pc : Nat} {ls : List (Nat × Value)} {st : List Value} {v : zV}
theorem z_xthrow (F : zF x G cc nL own fr lo) (hfl : x.2.1.stackTraces = false) (hnt : ∀ z ∈ x.2.2.2.2.2.2.2.2.2.exceptionTable.toList, False) (hlocks : x.2.2.2.2.2.2.2.2.1.locks = false) {cls : String} {names : List String} {ik ic cd mc9 ms9 : Nat} {o9 : Option Value} (hcd : zEx (cd + 1) = cls) (hcls : Bundle.fit cls = true) (hnames : ∀ n ∈ names, Bundle.fit n = true)
    (hk : Cond.classLink own ik cls ∈ zTbl) (hini : Cond.initialized cls ∈ zTbl) (hat : ∀ w ∈ vx_at0 own ic cls names, w ∈ zTbl ∨ ∀ (U : State) (args : Array Value), zOld G U → w.before args U = true) (hgood : ∀ w ∈ Cond.classLink own ik cls :: Cond.initialized cls :: vx_at0 own ic cls names, vx_ot w = true)
    (lU : Cond.laysStatic Bundle.tN "UNASSIGNED_STACK" Bundle.steD ∈ lw_tbl) (lN : Cond.laysStatic Bundle.tN "SUPPRESSED_SENTINEL" Bundle.listD ∈ lw_tbl) (lI : Cond.initialized Bundle.tN ∈ lw_tbl)
    (d0 : decode cc pc = .ok (.new ik, 3)) (d3 : decode cc (pc + 3) = .ok (.dup, 1)) (d4 : decode cc (pc + 4) = .ok (.invokespecial ic, 3)) (d7 : decode cc (pc + 7) = .ok (.athrow, 1))
    (hfr : names.length + 4 ≤ fr) (hlo : 8 + (13 * (names.length + 1) + 42) ≤ lo) (hW : (st.map fun q => q.category).sum ≤ 8) (hcs : cs + 1 ≤ x.2.2.2.1.cells ∧ sl + 6 ≤ x.2.2.2.1.slots) (h1 : cs + 1 ≤ mc9) (h2 : sl + 6 ≤ ms9) : zJ x G nL (zXQ x G (cd + 1) o9 v mc9 ms9) cs sl pc ls st v := by
  intro H locs la hP hS hl
  have hO := F.2.2.2.2.2.2.2.2
  refine vx_throw0 (A := zA G) F.1 F.2.1 hfl F.2.2.2.1 hcls hnames (F.2.2.2.2.1 _ hk) (F.2.2.2.2.1 _ hini) (fun w hw => (hat w hw).elim (fun h => F.2.2.2.2.1 _ h) (fun h => h _ _ hO)) hgood (z_zq G hO lU lI zq_us) (z_zq G hO lN lI zq_ss) hS (hl.1.trans F.2.2.1.symm) d0 d3 d4 d7 (fun z hz => (hnt z hz).elim) (Nat.lt_of_lt_of_le hfr F.2.2.2.2.2.2.1) (Nat.le_trans (Nat.add_le_add_right hW _) (Nat.le_trans hlo F.2.2.2.2.2.2.2.1)) hcs.1 hcs.2 hlocks (fun t _ hz hq => ⟨⟨⟨Nat.succ_pos _, hcd.symm⟩, hP.kept (fun k q hk => hq q.1 (vx_lt hP hk))⟩, Nat.le_trans hS.1 hz, fun q hq1 hq2 => ?_⟩) hS.2.2 h1 h2
  rw [hq q (Nat.lt_of_lt_of_le hq1 hS.1)]
  exact hS.2.1 q hq1 hq2
end ZX2
theorem z_id {x : zCx} {G : zG} {nL : Nat} {Q : State → Prop} {cs sl pc : Nat} {ls : List (Nat × Value)} {st : List Value} {v : zV} (k : zJ x G nL Q cs sl pc ls st v) : zJ x G nL Q cs sl pc ls st v := k
