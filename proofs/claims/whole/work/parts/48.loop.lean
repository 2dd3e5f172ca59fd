/-! THE CLAIM OUT OF ONE WALK OF THE LAW'S BODY. Your part is whole_start (and what it stands on); all else here is the same for every law, but numbers. -/
def R_law : String := "ContraryChairsLaw"
def lw_P (b : Addr) (xs : List Int32) (args : Array Value) (s : State) : Prop := args = #[.ref b] ∧ s.IntsAt b xs ∧ xs.length ≤ 3584 ∧ (Jvm.Cond.and given_1 narrow_1).before args s = true
def lw_Q (_ : Array Value) (s : State) (o : Outcome) (t : State) : Prop := o = .returned (some (.int 1)) ∧ Framed s o t [] 601024 7293034
def lw_Z (below : List Frame) (a : Array Value) (s : State) : State → Prop := fun t => ∃ o, t.status = .running ∧ Ended t below o ∧ lw_Q a s o t
/-- the law's own end, with 1 on the stack, nothing written that was there before, its room as the claim has it -/
theorem lw_ret {p : Program} {l : Launch} {e : Env} {s : State} {m : MethodId} {below : List Frame} {meth : Method} {c : Code} {b : Nat} (hx : p.tables.exec = Jvm.exec) (hb : c.code = code) (hr : meth.sig.returnType = ret) (hlocks : meth.locks = false) {pc : Nat} {H : Heap} {ls : Array Slot} (hdg : decode code pc = .ok (.ireturn, 1)) : W p l e room_1 s m #[Value.ref b] below meth c H [] 601024 7293034 (lw_Z below #[Value.ref b] s) (F0 m pc ls [.int 1]) := by
  intro T hT X
  obtain ⟨fs, hret, hrun, hended, hW, hframe⟩ := X.leave (v := some (.int 1)) (hlocks := hlocks) (fun h => by rw [hr] at h; cases h)
  have hmeth' : T.vm.method? m = some meth := X.method'
  refine ⟨T.setFrames fs, ?_, .returned (some (.int 1)), hrun, hended, rfl, ⟨_, rfl⟩, hW, hframe⟩
  jvm_step X.here [X.here.top, hx, hb, hdg, hmeth', hr, ret, narrow_b1]
  (try refine ⟨rfl, ?_⟩); (try refine ⟨rfl, ?_⟩)
  first | (intro acts; rw [hret _ acts rfl rfl rfl]) | rw [hret _ _ rfl rfl rfl]
  exact Steps.refl _
/-- what holds at the law's entry: the machine, the code, the tables' words (any of lw_tbl by 'hts w (by decide +kernel)'), the script of L ints xs at the cell b, what the Statement gives of the start (any of its parts by flat_of_before) -/
def lw_At (p : Program) (s : State) (m : MethodId) (meth : Method) (c : Code) (b L : Nat) (xs : Nat → Int32) : Prop :=
  p.tables.exec = Jvm.exec ∧ c.code = code ∧ meth.sig.returnType = ret ∧ c.maxLocals = 7 ∧ s.vm.findClass R_law = some m.cls ∧ (∀ w ∈ lw_tbl, w.before #[Value.ref b] s = true) ∧ va_X b L xs s s.heap ∧ b < s.heap.size ∧ meth.locks = false ∧ (Jvm.Cond.and given_1 narrow_1).before #[Value.ref b] s = true
set_option maxRecDepth 20000 in
set_option maxHeartbeats 4000000 in
/-- THE LAW'S LOOP, for any invariant that a call keeps -/
theorem zlaw_loop {x : zCx} {G : zG} {fr lo b L : Nat} {xs : Nat → Int32} (F : zF x G cL_law_ 7 RL fr lo) (hfr : 400 ≤ fr ∧ 20000 ≤ lo) (hfl : x.2.1.stackTraces = false) (hX : va_X b L xs x.2.2.2.2.1 x.2.2.2.2.1.heap) (hbl : b < x.2.2.2.2.1.heap.size) (hbA : ¬ zA G b) (t0 : zty G 0 1 9) (t1 : zty G 116 1 10) (t3 : zty G 603 2 2) (hL : L ≤ 3584)
    (hargs : x.2.2.2.2.2.2.1 = #[Value.ref b]) (hR : x.2.2.2.1 = room_1) (hr : x.2.2.2.2.2.2.2.2.1.sig.returnType = ret) (hlocks : x.2.2.2.2.2.2.2.2.1.locks = false) (hbase : x.2.2.2.2.1.heap.size ≤ G.2.2)
    (Inv : zV → Prop) (hstep : ∀ (v : zV) (k p1 p2 p3 p4 p5 p6 : Int32), Inv v → ∃ w, fLstep (k &&& 63) p1 p2 p3 p4 p5 p6 v = some w ∧ Inv w) :
    ∀ (n j : Nat) (v : zV) (cs sl : Nat), Inv v → L + 7 ≤ j + 7 * n → j ≤ L + 6 → cs + 5 * n ≤ 20000 → sl + 30 * n ≤ 200000 → zJ x G 7 (lw_Z x.2.2.2.2.2.2.2.1 #[Value.ref b] x.2.2.2.2.1) cs sl 23 [(0, .ref b), (1, zr G 0), (2, zr G 116), (3, zr G 603), (4, .int (nI j))] [] v := by
  intro n
  induction n with
  | zero => intro j v cs sl _ h1 h2; omega
  | succ n ih =>
    intro j v cs sl hI h1 h2 h3 h4
    have hjx : j < 2 ^ 31 := by omega
    refine z_iload F dL_law__23 4 rfl ?_
    refine z_aload_n F dL_law__25 rfl 0 rfl ?_
    refine z_slen0 F hX hbl hbA dL_law__26 ?_
    refine z_bipush (y := (7 : Int32)) F dL_law__27 rfl ?_
    refine z_isub F dL_law__29 ?_
    have hcmp : ∀ P : Prop, (j + 7 ≤ L → P) → (¬ (nI L - 7 < nI j) → P) := by
      intro P hP hn
      by_cases h7 : 7 ≤ L
      · have e : nI L - 7 = nI (L - 7) := pk_sub h7
        rw [e] at hn
        refine hP ?_
        by_cases hjl : L - 7 < j
        · exact absurd (nI_lt hjl hjx) hn
        · omega
      · refine absurd (pk_sneg (a := L) (b := 7) (by omega) (by omega)) (fun hneg => hn ?_)
        exact Int32.lt_of_lt_of_le hneg (nI_pos' hjx)
    refine z_icmp_gt F 2923 dL_law__30 rfl (fun hc => ?_) (fun hc => ?_)
    · intro H locs la hP hS hl
      refine va_forget (fun q hq => Nat.le_trans hbase (hS.2.2 q hq)) ?_
      refine lv_iconst (v := 1) F.1 F.2.1 dL_law__2923 (by decide) ?_
      refine W.widen (k := 601024) (n := 7293034) (by omega) (by omega) ?_
      have := lw_ret (p := x.1) (l := x.2.1) (e := x.2.2.1) (s := x.2.2.2.2.1) (m := x.2.2.2.2.2.1) (below := x.2.2.2.2.2.2.2.1) (meth := x.2.2.2.2.2.2.2.2.1) (c := x.2.2.2.2.2.2.2.2.2) (b := b) F.1 F.2.1 hr hlocks (pc := 2924) (H := H) (ls := la) dL_law__2924
      rw [← hR, ← hargs] at this
      rw [← hargs]
      exact this
    · exact hcmp _ (fun hj => by
        obtain ⟨w, hw, hIw⟩ := hstep v (xs j) (xs (j + 1)) (xs (j + 2)) (xs (j + 3)) (xs (j + 4)) (xs (j + 5)) (xs (j + 6)) hI
        refine jLstep F hfr hfl hX hbl hbA t0 t1 t3 hj (by omega) (by rw [hR]; exact ⟨by show cs + 5 ≤ 601024; omega, by show sl + 30 ≤ 7293034; omega⟩) v w hw ?_
        refine z_iinc F [(4, .int (nI (j + 7))), (0, .ref b), (1, zr G 0), (2, zr G 116), (3, zr G 603)] dL_law__2917 4 rfl rfl (Nat.le_of_ble_eq_true rfl) (by rw [← nI_add j 7]; rfl) ?_
        refine z_goto F 23 dL_law__2920 rfl ?_
        refine z_ls [(0, .ref b), (1, zr G 0), (2, zr G 116), (3, zr G 603), (4, .int (nI (j + 7)))] [1, 2, 3, 4, 0] rfl ?_
        exact ih (j + 7) w (cs + 5) (sl + 30) hIw (by omega) (by omega) (by omega) (by omega)) hc

