/-! multianewarray: N rows of K ints. A proof over the model's words; it rests on nothing of Shelf42 -/
def bmna (G : zG) (ce : Nat → va_E) (n N K : Nat) : Nat → va_E := fun j => if j = n then .inl (G.2.1 3, N, .inr (.inr (.inr (.inr (fun i => if i < N then some (G.2.2 + n + 1 + i) else none))))) else if n < j ∧ j ≤ n + N then .inl (G.2.1 0, K, .inl (fun _ => 0)) else ce j
/-! the cells on the way: the outer array with its first i places set; a row -/
def zmo (cA : ClassId) (N h0 i : Nat) : Cell := arrV cA N (fun j => va_rf (if j < i then some (h0 + 1 + j) else none))
def zmr (cR : ClassId) (K : Nat) : Cell := arrV cR K (fun _ => .int 0)
theorem zmo_z (cA : ClassId) (N h0 : Nat) : arrV cA N (fun _ => Value.null) = zmo cA N h0 0 := by
  unfold zmo
  refine congrArg (arrV cA N) (funext fun j => ?_)
  rw [if_neg (Nat.not_lt_zero j)]
  rfl
theorem zmo_s (cA : ClassId) (N h0 i : Nat) : (zmo cA N h0 i).setSlot i (.ref (h0 + 1 + i)) = zmo cA N h0 (i + 1) := by
  unfold zmo
  rw [arrV_store]
  refine congrArg (arrV cA N) (funext fun j => ?_)
  unfold updV
  by_cases e : j = i
  · rw [if_pos e, if_pos (by omega), e]
    rfl
  · rw [if_neg e]
    show va_rf _ = va_rf _
    by_cases hl : j < i
    · rw [if_pos hl, if_pos (by omega)]
    · rw [if_neg hl, if_neg (by omega)]
/-! the state when i rows stand, from the state U0 -/
def zmU (U0 : State) (cA cR : ClassId) (N K : Nat) : Nat → State
  | 0 => U0.pushCell (zmo cA N U0.heap.size 0)
  | i + 1 => ((zmU U0 cA cR N K i).pushCell (zmr cR K)).setCell U0.heap.size (zmo cA N U0.heap.size (i + 1))
section ZMA
variable {p : Program} {l : Launch} {e : Env} {R : Room} {s : State} {m : MethodId} {args : Array Value} {below : List Frame} {meth : Method} {c : Code} {locs : List Loc} {cs sl : Nat} {U0 : State} {cA cR : ClassId} {N K : Nat}
/-! what holds of it: the size, the outer cell, the old cells, the rows -/
theorem zmU_heap : ∀ i : Nat, (zmU U0 cA cR N K i).vm = U0.vm ∧ (zmU U0 cA cR N K i).heap.size = U0.heap.size + 1 + i ∧ (zmU U0 cA cR N K i).heap[U0.heap.size]? = some (zmo cA N U0.heap.size i) ∧ (∀ q : Nat, q < U0.heap.size → (zmU U0 cA cR N K i).heap[q]? = U0.heap[q]?) ∧ ∀ j : Nat, j < i → (zmU U0 cA cR N K i).heap[U0.heap.size + 1 + j]? = some (zmr cR K)
  | 0 => by
    refine ⟨rfl, ?_, ?_, fun q hq => ?_, fun j hj => absurd hj (Nat.not_lt_zero j)⟩
    · show (U0.heap.push _).size = _
      rw [Array.size_push]
    · show (U0.heap.push _)[U0.heap.size]? = _
      rw [Array.getElem?_push_size]
    · show (U0.heap.push _)[q]? = _
      rw [Array.getElem?_push, if_neg (Nat.ne_of_lt hq)]
  | i + 1 => by
    obtain ⟨g0, g1, g2, g3, g4⟩ := zmU_heap i
    have gp : ∀ q : Nat, q < U0.heap.size + 1 + i → ((zmU U0 cA cR N K i).heap.push (zmr cR K))[q]? = (zmU U0 cA cR N K i).heap[q]? := fun q hq => by
      rw [Array.getElem?_push, if_neg (by omega)]
    have gs : ∀ q : Nat, q ≠ U0.heap.size → (zmU U0 cA cR N K (i + 1)).heap[q]? = ((zmU U0 cA cR N K i).heap.push (zmr cR K))[q]? := fun q hq => by
      show (((zmU U0 cA cR N K i).heap.push (zmr cR K)).setIfInBounds U0.heap.size _)[q]? = _
      rw [Array.getElem?_setIfInBounds, if_neg (Ne.symm hq)]
    refine ⟨g0, ?_, ?_, fun q hq => ?_, fun j hj => ?_⟩
    · show (((zmU U0 cA cR N K i).heap.push (zmr cR K)).setIfInBounds U0.heap.size _).size = _
      rw [Array.size_setIfInBounds, Array.size_push, g1]
      omega
    · show (((zmU U0 cA cR N K i).heap.push (zmr cR K)).setIfInBounds U0.heap.size _)[U0.heap.size]? = _
      rw [Array.getElem?_setIfInBounds, if_pos rfl, if_pos (by rw [Array.size_push, g1]; omega)]
    · rw [gs q (Nat.ne_of_lt hq), gp q (by omega), g3 q hq]
    · rw [gs _ (by omega)]
      by_cases e : j = i
      · subst e
        rw [← g1, Array.getElem?_push_size]
      · rw [gp _ (by omega), g4 j (by omega)]
/-! and the frame rule holds over it: the places that were set lie in the new cell -/
theorem zmU_st (X : Stand p l e R s m args below meth c U0 locs cs sl) : ∀ i : Nat, Stand p l e R s m args below meth c (zmU U0 cA cR N K i) locs (cs + 1 + i) (sl + N + i * K)
  | 0 => by
    have Y := X.pushed (zmo cA N U0.heap.size 0)
    rw [show (zmo cA N U0.heap.size 0).slots.size = N from arrV_size _ _ _] at Y
    rw [Nat.zero_mul]
    exact Y
  | i + 1 => by
    obtain ⟨-, g1, g2, -, -⟩ := zmU_heap (U0 := U0) (cA := cA) (cR := cR) (N := N) (K := K) i
    have Y := (zmU_st X i).pushed (zmr cR K)
    rw [show (zmr cR K).slots.size = K from arrV_size _ _ _] at Y
    have hc : ((zmU U0 cA cR N K i).pushCell (zmr cR K)).heap[U0.heap.size]? = some (zmo cA N U0.heap.size i) := by
      show ((zmU U0 cA cR N K i).heap.push (zmr cR K))[U0.heap.size]? = _
      rw [Array.getElem?_push, if_neg (by omega), g2]
    have Z := (Y.stored hc i (.ref (U0.heap.size + 1 + i))).dropFresh (fun z hz => by cases List.mem_singleton.mp hz; exact X.heapGrown)
    rw [zmo_s] at Z
    rw [show sl + N + (i + 1) * K = sl + N + i * K + K by rw [Nat.succ_mul]; omega]
    exact Z
end ZMA
section ZMB
variable {E : CtlPost} {e : Env} {d : Bool} {acts : List Action} {cA cR cI : ClassId} {kA kR : Class} {n k : Int32}
/-! one array, as arrV -/
theorem zma_one {u : State} {c comp : ClassId} {kc : Class} {ty : FieldType} {N : Nat} {w : Value} {Q : Addr → Pre} (hk : u.vm.classes[c]? = some kc) (hd : kc.kind = .array comp ty) (h1 : ¬ N > e.platform.arrayLengthLimit) (h2 : ¬ N * componentBytes ty > e.platform.maxHeapBytes) (h3 : u.heap.size < e.platform.maxCells) (h4 : u.slotsUsed + N ≤ e.platform.maxSlots) (hf : fits ty w = true) (kq : ∀ ac : List Action, Q u.heap.size d ac (u.pushCell (arrV c N (fun _ => w)))) : wp (Jvm.newArray c N w) Q E e d acts u := by
  refine Jvm.W.newArray_of hk hd h1 h2 h3 h4 hf (fun ac => ?_)
  have h := kq ac
  rw [← arrV_new] at h
  exact h
/-! a row -/
theorem zma_row {u : State} {Q : Addr → Pre} (hk : u.vm.classes[cR]? = some kR) (hd : kR.kind = .array cI .int) (hp : ¬ k < 0) (h1 : ¬ k.toNatClampNeg > e.platform.arrayLengthLimit) (h2 : ¬ k.toNatClampNeg * componentBytes .int > e.platform.maxHeapBytes) (h3 : u.heap.size < e.platform.maxCells) (h4 : u.slotsUsed + k.toNatClampNeg ≤ e.platform.maxSlots) (kq : ∀ ac : List Action, Q u.heap.size d ac (u.pushCell (zmr cR k.toNatClampNeg))) : wp (Jvm.Op.multianewarray.make cR [k]) Q E e d acts u := by
  unfold Jvm.Op.multianewarray.make
  rw [if_neg hp]
  simp only [wp_bind', wp_pure', W.theClass]
  refine ⟨kR, hk, ?_⟩
  simp only [hd]
  exact zma_one hk hd h1 h2 h3 h4 rfl kq
/-! the rows one behind another: r of them are still to come -/
theorem zma_loop {U0 : State} {f : JFrame} {N : Nat} {body : Nat → PUnit → Sem (ForInStep PUnit)} {Q : PUnit → Pre} (hb : ∀ j : Nat, body j PUnit.unit = (do
    let a ← Jvm.Op.multianewarray.make cR [k]
    Jvm.writeLoc U0.heap.size j (.ref a)
    Pure.pure (ForInStep.yield PUnit.unit))) (hA : U0.vm.classes[cA]? = some kA) (dA : kA.kind = .array cR (.array .int)) (hR : U0.vm.classes[cR]? = some kR) (dR : kR.kind = .array cI .int) (hp : ¬ k < 0) (h1 : ¬ k.toNatClampNeg > e.platform.arrayLengthLimit) (h2 : ¬ k.toNatClampNeg * componentBytes .int > e.platform.maxHeapBytes) (hroom : ∀ i : Nat, i < N → (zmU U0 cA cR N k.toNatClampNeg i).heap.size < e.platform.maxCells ∧ (zmU U0 cA cR N k.toNatClampNeg i).slotsUsed + k.toNatClampNeg ≤ e.platform.maxSlots) (kq : ∀ (d : Bool) (ac : List Action), Q PUnit.unit d ac ((zmU U0 cA cR N k.toNatClampNeg N).setTop f)) : ∀ (r i : Nat) (d : Bool) (acts : List Action), i + r = N → wp (forIn (List.range' i r) PUnit.unit body) Q E e d acts ((zmU U0 cA cR N k.toNatClampNeg i).setTop f)
  | 0, i, d, acts, h => by
    have h' : i = N := h
    subst h'
    rw [List.range'_zero, List.forIn_nil, wp_pure']
    exact kq d acts
  | r + 1, i, d, acts, h => by
    obtain ⟨g0, g1, g2, g3, g4⟩ := zmU_heap (U0 := U0) (cA := cA) (cR := cR) (N := N) (K := k.toNatClampNeg) i
    obtain ⟨r1, r2⟩ := hroom i (by omega)
    rw [List.range'_succ, List.forIn_cons, wp_bind', hb i]
    simp only [wp_bind', wp_pure', W.writeLoc]
    refine zma_row (kR := kR) (cI := cI) (by rw [State.vm_setTop, g0]; exact hR) dR hp h1 h2 r1 r2 (fun ac => ?_)
    refine ⟨zmo cA N U0.heap.size i, ?_, ?_, ?_, ?_, ?_⟩
    · show ((zmU U0 cA cR N k.toNatClampNeg i).heap.push _)[U0.heap.size]? = _
      rw [Array.getElem?_push, if_neg (by omega)]
      exact g2
    · intro hh
      cases hh
    · rw [show (zmo cA N U0.heap.size i).slots.size = N from arrV_size _ _ _]
      show i < N
      omega
    · show State.fitsSlot (zmU U0 cA cR N k.toNatClampNeg i) cA .none i (.ref _) = true
      have hA' : (zmU U0 cA cR N k.toNatClampNeg i).vm.classes[cA]? = some kA := by rw [g0]; exact hA
      simp [State.fitsSlot, State.slotType?, hA', dA]
      rfl
    · show wp _ Q E e true _ ((((zmU U0 cA cR N k.toNatClampNeg i).pushCell (zmr cR k.toNatClampNeg)).setCell U0.heap.size ((zmo cA N U0.heap.size i).setSlot i (.ref (zmU U0 cA cR N k.toNatClampNeg i).heap.size))).setTop f)
      rw [g1, zmo_s]
      exact zma_loop hb hA dA hR dR hp h1 h2 hroom kq r (i + 1) true _ (by omega)
/-! both dimensions -/
theorem zma_all {U0 : State} {f : JFrame} {Q : Addr → Pre} (hA : U0.vm.classes[cA]? = some kA) (dA : kA.kind = .array cR (.array .int)) (hR : U0.vm.classes[cR]? = some kR) (dR : kR.kind = .array cI .int) (hn : ¬ n < 0) (hp : ¬ k < 0) (n1 : ¬ n.toNatClampNeg > e.platform.arrayLengthLimit) (n2 : ¬ n.toNatClampNeg * componentBytes (.array .int) > e.platform.maxHeapBytes) (h1 : ¬ k.toNatClampNeg > e.platform.arrayLengthLimit) (h2 : ¬ k.toNatClampNeg * componentBytes .int > e.platform.maxHeapBytes) (h3 : U0.heap.size < e.platform.maxCells) (h4 : U0.slotsUsed + n.toNatClampNeg ≤ e.platform.maxSlots) (hroom : ∀ i : Nat, i < n.toNatClampNeg → (zmU U0 cA cR n.toNatClampNeg k.toNatClampNeg i).heap.size < e.platform.maxCells ∧ (zmU U0 cA cR n.toNatClampNeg k.toNatClampNeg i).slotsUsed + k.toNatClampNeg ≤ e.platform.maxSlots) (kq : ∀ (d : Bool) (ac : List Action), Q U0.heap.size d ac ((zmU U0 cA cR n.toNatClampNeg k.toNatClampNeg n.toNatClampNeg).setTop f)) : wp (Jvm.Op.multianewarray.make cA [n, k]) Q E e d acts (U0.setTop f) := by
  rw [Jvm.Op.multianewarray.make]
  simp only [wp_bind', W.ite, hn, if_false, wp_pure', W.theClass]
  refine ⟨kA, hA, ?_⟩
  simp only [dA, wp_bind']
  refine zma_one hA dA n1 n2 h3 h4 rfl (fun ac => ?_)
  have hf : List.find? (fun z : Int32 => decide (z < 0)) [k] = none := by simp [hp]
  simp only [hf, ite_self, wp_bind', wp_pure', W.ite, Std.Legacy.Range.forIn_eq_forIn_range', Std.Legacy.Range.size, Nat.sub_zero, Nat.add_sub_cancel, Nat.div_one]
  rw [zmo_z cA _ U0.heap.size]
  exact zma_loop (fun _ => rfl) hA dA hR dR hp h1 h2 hroom kq n.toNatClampNeg 0 d ac (Nat.zero_add _)
end ZMB
section ZMC
variable {p : Program} {l : Launch} {e : Env} {R : Room} {s : State} {m : MethodId} {args : Array Value} {below : List Frame} {meth : Method} {c : Code} {H : Heap} {locs : List Loc} {cs sl : Nat} {Q : State → Prop} {cc : ByteArray} {pc : Nat} {ls : Array Slot} {rest : List Value}
/-! the instruction -/
theorem zma_W (hexec : p.tables.exec = Jvm.exec) (hb : c.code = cc) {own : String} {index : Nat} (hown : s.vm.findClass own = some m.cls) (hlink : (Cond.classLink own index "[[I").before args s = true) (hover : (Cond.arrayOver (.array .int)).before args s = true) (harr : (Cond.arrayClass .int).before args s = true) {n k : Int32} (hn : ¬ n < 0) (hk : ¬ k < 0) (b1 : n.toNatClampNeg * 4 ≤ 536870912) (b2 : k.toNatClampNeg * componentBytes .int ≤ 536870912) (hcs : cs + (1 + n.toNatClampNeg) ≤ R.cells) (hsl : sl + (n.toNatClampNeg + n.toNatClampNeg * k.toNatClampNeg) ≤ R.slots) (hd : decode cc pc = .ok (.multianewarray index 2, 4))
    (kk : ∀ (cA cR : ClassId) (H1 : Heap), s.vm.findClass "[[I" = some cA → s.vm.findClass "[I" = some cR → H1.size = H.size + 1 + n.toNatClampNeg → H1[H.size]? = some (zmo cA n.toNatClampNeg H.size n.toNatClampNeg) → (∀ q : Nat, q < H.size → H1[q]? = H[q]?) → (∀ j : Nat, j < n.toNatClampNeg → H1[H.size + 1 + j]? = some (zmr cR k.toNatClampNeg)) → W p l e R s m args below meth c H1 locs (cs + 1 + n.toNatClampNeg) (sl + n.toNatClampNeg + n.toNatClampNeg * k.toNatClampNeg) Q (F0 m (pc + 4) ls (.ref H.size :: rest))) : W p l e R s m args below meth c H locs cs sl Q (F0 m pc ls (.int k :: .int n :: rest)) := by
  intro T hT X
  subst hT
  subst hb
  obtain ⟨cR, cA, kA, fR, -, gA, dA, fA⟩ := z_aoI hover
  obtain ⟨cR', kR, cI, fR', gR, dR⟩ := Cond.arrayClass_spec harr
  have eR : cR' = cR := Option.some.inj (fR'.symm.trans fR)
  subst eR
  obtain ⟨c0, f0, hlk⟩ := Cond.classLink_spec hown hlink e.platform (by rw [X.admits.platform])
  have eA : c0 = cA := Option.some.inj (f0.symm.trans fA)
  subst eA
  obtain ⟨hg1, hw1, hr1⟩ := State.classEntry (e := e) X.warmed hlk
  generalize T.vm.noted m.cls index (.cls c0) = vm1 at hg1 hw1 hr1
  have hal : s.vm.Alike vm1 := hw1.alike
  obtain ⟨kA1, gA1, uA⟩ := hal.2.2 _ _ gA
  obtain ⟨kR1, gR1, uR⟩ := hal.2.2 _ _ gR
  have dA1 : kA1.kind = .array cR' (.array .int) := by rw [uA]; exact dA
  have dR1 : kR1.kind = .array cI .int := by rw [uR]; exact dR
  have Y := zmU_st (cA := c0) (cR := cR') (N := n.toNatClampNeg) (K := k.toNatClampNeg) (X.noted hw1)
  obtain ⟨q0, q1, q2, q3, q4⟩ := zmU_heap (U0 := T.setVm vm1) (cA := c0) (cR := cR') (N := n.toNatClampNeg) (K := k.toNatClampNeg) n.toNatClampNeg
  obtain ⟨t, a1, a2⟩ := kk c0 cR' _ f0 fR q1 q2 q3 q4 _ rfl (Y n.toNatClampNeg)
  refine ⟨t, ?_, a2⟩
  have hl : e.platform.arrayLengthLimit = 2147483645 := Launch.admits_arrayLengthLimit X.admits
  have hh : e.platform.maxHeapBytes = 536870912 := Launch.admits_maxHeapBytes X.admits
  have hci : componentBytes .int = 4 := rfl
  have hca : componentBytes (.array .int) = 4 := rfl
  have b3 : k.toNatClampNeg * 4 ≤ 536870912 := b2
  have hdT : decode c.code (F0 m pc ls (.int k :: .int n :: rest)).pc = .ok (.multianewarray index 2, 4) := hd
  jvm_step X.here [hexec, hdT]
  simp only [Jvm.Op.multianewarray.sem, wp_bind', Jvm.W.resolveClassAt_links (State.method?_setTop (F0 m pc ls (.int k :: .int n :: rest)) X.here.top) hg1]
  refine (Jvm.Op.popN_top (s := T.setVm vm1) (f := F0 m pc ls (.int k :: .int n :: rest)) X.here.top (args := [.int n, .int k]) (rest := rest) rfl).mpr ?_
  simp only [List.mapM_cons, List.mapM_nil, wp_bind', wp_pure']
  refine zma_all (U0 := T.setVm vm1) gA1 dA1 gR1 dR1 hn hk (by rw [hl]; omega) (by rw [hh, hca]; omega) (by rw [hl]; omega) (by rw [hh]; omega) ?_ ?_ (fun i hi => ?_) (fun d' ac' => ?_)
  · exact Nat.lt_of_succ_le (Nat.le_trans (by show T.heap.size + 1 ≤ T.heap.size + 1; omega) ((X.noted hw1).roomAbove (a := 1) (b := 0) (by omega) (by omega)).1)
  · exact ((X.noted hw1).roomAbove (a := 0) (b := n.toNatClampNeg) (by omega) (by omega)).2
  · have hmul : i * k.toNatClampNeg + k.toNatClampNeg ≤ n.toNatClampNeg * k.toNatClampNeg := by
      rw [← Nat.succ_mul]
      exact Nat.mul_le_mul_right _ hi
    have Z := (Y i).roomAbove (a := 1) (b := k.toNatClampNeg) (by omega) (by omega)
    exact ⟨Nat.lt_of_succ_le Z.1, Z.2⟩
  · simp only [wp_bind', W.mark, W.pushRef, State.topJava?_setTop' _ (Y n.toNatClampNeg).here.top, Option.some.injEq, exists_eq_left', State.setTop_setTop]
    intro ac2
    simp [jvm, (Y n.toNatClampNeg).here.top]
    exact a1
end ZMC
section ZM
variable {x : zCx} {G : zG} {cc : ByteArray} {nL : Nat} {own : String} {fr lo : Nat} {Q : State → Prop} {cs sl pc : Nat} {ls : List (Nat × Value)} {st : List Value} {n : Nat} {ce : Nat → va_E}
theorem b_mna (F : zF x G cc nL own fr lo) {idx : Nat} (hcl : Cond.classLink own idx "[[I" ∈ zTbl) (hov : Cond.arrayOver (.array .int) ∈ lw_tbl) (hac : Cond.arrayClass .int ∈ zTbl) {m k : Int32} {N' K' : Nat} (hm : ¬ m < 0) (hk : ¬ k < 0) (hN : m.toNatClampNeg = N') (hK : k.toNatClampNeg = K') (hb1 : N' * 4 ≤ 536870912) (hb2 : K' * componentBytes .int ≤ 536870912) (hb3 : K' ≤ 536870912) (hcs : cs + (1 + N') ≤ x.2.2.2.1.cells ∧ sl + (N' + N' * K') ≤ x.2.2.2.1.slots) (hd : decode cc pc = .ok (.multianewarray idx 2, 4)) (kk : zB x G nL Q (cs + 1 + N') (sl + N' + N' * K') (pc + 4) ls (zr G n :: st) (n + 1 + N') (bmna G ce n N' K')) : zB x G nL Q cs sl pc ls (.int k :: .int m :: st) n ce := by
  subst hN
  subst hK
  refine b_sized F (fun H locs la hP hS hl hn hsz => ?_)
  obtain ⟨s0, a0, h1, h2, h3, h4, h5, h6⟩ := F.2.2.2.2.2.2.2.2
  refine zma_W F.1 F.2.1 F.2.2.2.1 (F.2.2.2.2.1 _ hcl) (z_aoA h4.alike (h1 _ hov)) (F.2.2.2.2.1 _ hac) hm hk hb1 hb2 hcs.1 hcs.2 hd (fun cA cR H1 fA fR e1 e2 e3 e4 => ?_)
  have hcA : cA = G.2.1 3 := Option.some.inj (fA.symm.trans (F.2.2.2.2.2.1.2 3 _ rfl).2)
  have hcR : cR = G.2.1 0 := Option.some.inj (fR.symm.trans (F.2.2.2.2.2.1.2 0 _ rfl).2)
  subst hcA
  subst hcR
  rw [show (Value.ref H.size) = zr G n from congrArg Value.ref hsz]
  refine kk H1 locs la (zWb_P (fun i hi => ?_)) ⟨Nat.le_trans hS.1 (by omega), fun q g1 g2 => (e3 q (Nat.lt_of_lt_of_le g1 hS.1)).trans (hS.2.1 q g1 g2), hS.2.2⟩ hl (by omega)
  unfold bmna
  by_cases q1 : i = n
  · subst q1
    rw [if_pos rfl]
    show H1[G.2.2 + i]? = some (vp_cell _ _)
    rw [← hsz, e2, vp_cell_q]
    unfold zmo
    rw [hsz]
  · rw [if_neg q1]
    by_cases q2 : n < i ∧ i ≤ n + m.toNatClampNeg
    · rw [if_pos q2]
      show H1[G.2.2 + i]? = some (vp_cell _ _)
      have h9 := e4 (i - n - 1) (by omega)
      rw [show H.size + 1 + (i - n - 1) = G.2.2 + i by omega] at h9
      rw [h9]
      rfl
    · rw [if_neg q2]
      have h9 := zWb_A hP (i := i) (by omega)
      exact h9.kept (e3 _ h9.lt)
end ZM
