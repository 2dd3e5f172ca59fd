/-! THE HEAP WHILE IT GROWS: its first n cells are ce; what the constructors do -/
def bup (ce : Nat → va_E) (i : Nat) (e : va_E) : Nat → va_E := fun j => if j = i then e else ce j
def bupR (ce : Nat → va_E) (i k : Nat) (e : va_E) : Nat → va_E := fun j => if i ≤ j ∧ j < i + k then e else ce j
def zWb (G : zG) (n : Nat) (ce : Nat → va_E) : va_W := (List.range n).map (fun i => (G.2.2 + i, ce i))
theorem zWb_at (G : zG) {n : Nat} (ce : Nat → va_E) {i : Nat} (h : i < n) : (zWb G n ce)[i]? = some (G.2.2 + i, ce i) := by
  unfold zWb
  rw [List.getElem?_map, List.getElem?_range h]
  rfl
theorem zWb_len (G : zG) (n : Nat) (ce : Nat → va_E) : (zWb G n ce).length = n := by simp [zWb]
theorem zWb_D (G : zG) (n : Nat) (ce : Nat → va_E) : va_D (zA G) (zWb G n ce) := by
  have key : ∀ (k : Nat) (q : Nat × va_E), (zWb G n ce)[k]? = some q → q.1 = G.2.2 + k := by
    intro k q hk
    have hl := (List.getElem?_eq_some_iff.mp hk).1
    rw [zWb_len] at hl
    rw [zWb_at G ce hl] at hk
    cases hk
    rfl
  refine ⟨fun i j p q hi hj e => ?_, fun k q hk => ?_⟩
  · have h1 := key i p hi
    have h2 := key j q hj
    omega
  · show G.2.2 ≤ q.1
    rw [key k q hk]
    omega
theorem zWb_set (G : zG) (n : Nat) (ce : Nat → va_E) (i : Nat) (h : i < n) (e : va_E) : (zWb G n ce).set i (G.2.2 + i, e) = zWb G n (bup ce i e) := by
  apply List.ext_getElem?
  intro k
  by_cases hk : k = i
  · subst hk
    rw [List.getElem?_set_self (by rw [zWb_len]; exact h), zWb_at G _ h]
    simp [bup]
  · rw [List.getElem?_set_ne (Ne.symm hk)]
    by_cases hl : k < n
    · rw [zWb_at G ce hl, zWb_at G _ hl]
      simp [bup, hk]
    · rw [List.getElem?_eq_none (by rw [zWb_len]; omega), List.getElem?_eq_none (by rw [zWb_len]; omega)]
theorem zWb_P {G : zG} {n : Nat} {ce : Nat → va_E} {H : Heap} (h : ∀ i, i < n → va_at G.1 vwCl (G.2.2 + i, ce i) H) : va_P G.1 vwCl (zWb G n ce) H := by
  intro k q hk
  have hl := (List.getElem?_eq_some_iff.mp hk).1
  rw [zWb_len] at hl
  rw [zWb_at G ce hl] at hk
  cases hk
  exact h k hl
theorem zWb_A {G : zG} {n : Nat} {ce : Nat → va_E} {H : Heap} (h : va_P G.1 vwCl (zWb G n ce) H) {i : Nat} (hi : i < n) : va_at G.1 vwCl (G.2.2 + i, ce i) H := h i _ (zWb_at G ce hi)
theorem zWb_push {G : zG} {n : Nat} {ce : Nat → va_E} {e : va_E} {H H1 : Heap} (h : va_P G.1 vwCl (zWb G n ce) H) (hk : ∀ q, q < H.size → H1[q]? = H[q]?) (he : va_at G.1 vwCl (G.2.2 + n, e) H1) : va_P G.1 vwCl (zWb G (n + 1) (bup ce n e)) H1 := by
  refine zWb_P (fun i hi => ?_)
  by_cases hin : i = n
  · subst hin
    simpa [bup] using he
  · have hlt : i < n := by omega
    have h1 := zWb_A h hlt
    have h2 : va_at G.1 vwCl (G.2.2 + i, ce i) H1 := h1.kept (hk _ h1.lt)
    simpa [bup, hin] using h2
theorem zWb_lo {G : zG} {n : Nat} {ce : Nat → va_E} {H : Heap} (h : va_P G.1 vwCl (zWb G n ce) H) (hb : G.2.2 ≤ H.size) : G.2.2 + n ≤ H.size := by
  rcases Nat.eq_zero_or_pos n with rfl | hn
  · exact hb
  · have h1 := (zWb_A h (i := n - 1) (by omega)).lt
    have h2 : (G.2.2 + (n - 1), ce (n - 1)).1 = G.2.2 + (n - 1) := rfl
    rw [h2] at h1
    omega
def zB (x : zCx) (G : zG) (nL : Nat) (Q : State → Prop) (cs sl : Nat) (pc : Nat) (ls : List (Nat × Value)) (st : List Value) (n : Nat) (ce : Nat → va_E) : Prop :=
  ∀ (H : Heap) (locs : List Loc) (la : Array Slot), va_P G.1 vwCl (zWb G n ce) H → va_S (zA G) x.2.2.2.2.1.heap H locs → lv_has la nL ls → x.2.2.2.2.1.heap.size + cs ≤ G.2.2 + n → W x.1 x.2.1 x.2.2.1 x.2.2.2.1 x.2.2.2.2.1 x.2.2.2.2.2.1 x.2.2.2.2.2.2.1 x.2.2.2.2.2.2.2.1 x.2.2.2.2.2.2.2.2.1 x.2.2.2.2.2.2.2.2.2 H locs cs sl Q (F0 x.2.2.2.2.2.1 pc la st)
theorem zOld_le {G : zG} {U : State} (h : zOld G U) : G.2.2 ≤ U.heap.size := by
  obtain ⟨s0, a0, h1, h2, h3, h4, h5, h6⟩ := h
  rcases Nat.eq_zero_or_pos G.2.2 with h0 | h0
  · omega
  · have h7 := h5 (G.2.2 - 1) (by omega)
    have h8 : G.2.2 - 1 < s0.heap.size := by omega
    rw [Array.getElem?_eq_getElem h8] at h7
    have := (Array.getElem?_eq_some_iff.mp h7).1
    omega
theorem z_ao {G : zG} {U : State} {args : Array Value} {C : String} (h : zOld G U) (hc : Cond.arrayOver (.object C) ∈ lw_tbl) : (Cond.arrayOver (.object C)).before args U = true := by
  obtain ⟨s0, a0, h1, h2, h3, h4, h5, h6⟩ := h
  exact va_AO.use ((va_AO.of (h1 _ hc)).moved h4.alike)
section ZB
variable {x : zCx} {G : zG} {cc : ByteArray} {nL : Nat} {own : String} {fr lo : Nat} {Q : State → Prop} {cs sl pc : Nat} {ls : List (Nat × Value)} {st : List Value} {n : Nat} {ce : Nat → va_E}
theorem b_size (F : zF x G cc nL own fr lo) {H : Heap} {locs : List Loc} {T : State} (hP : va_P G.1 vwCl (zWb G n ce) H) (hS : va_S (zA G) x.2.2.2.2.1.heap H locs) (hn : x.2.2.2.2.1.heap.size + cs ≤ G.2.2 + n) (hT : T.heap = H) (X : Stand x.1 x.2.1 x.2.2.1 x.2.2.2.1 x.2.2.2.2.1 x.2.2.2.2.2.1 x.2.2.2.2.2.2.1 x.2.2.2.2.2.2.2.1 x.2.2.2.2.2.2.2.2.1 x.2.2.2.2.2.2.2.2.2 T locs cs sl) : H.size = G.2.2 + n := by
  have h1 := zWb_lo hP (Nat.le_trans (zOld_le F.2.2.2.2.2.2.2.2) hS.1)
  have h2 : (T.setVm x.2.2.2.2.1.vm).heap.size ≤ x.2.2.2.2.1.heap.size + cs := X.same.2.2.1
  have h3 : (T.setVm x.2.2.2.2.1.vm).heap = T.heap := rfl
  rw [h3, hT] at h2
  omega
theorem b_sized (F : zF x G cc nL own fr lo) (k : ∀ (H : Heap) (locs : List Loc) (la : Array Slot), va_P G.1 vwCl (zWb G n ce) H → va_S (zA G) x.2.2.2.2.1.heap H locs → lv_has la nL ls → x.2.2.2.2.1.heap.size + cs ≤ G.2.2 + n → H.size = G.2.2 + n → W x.1 x.2.1 x.2.2.1 x.2.2.2.1 x.2.2.2.2.1 x.2.2.2.2.2.1 x.2.2.2.2.2.2.1 x.2.2.2.2.2.2.2.1 x.2.2.2.2.2.2.2.2.1 x.2.2.2.2.2.2.2.2.2 H locs cs sl Q (F0 x.2.2.2.2.2.1 pc la st)) : zB x G nL Q cs sl pc ls st n ce :=
  fun H locs la hP hS hl hn T hT X => k H locs la hP hS hl hn (b_size F hP hS hn hT X) T hT X
theorem b_iconst (F : zF x G cc nL own fr lo) {nn : Int} {y : Int32} (hd : decode cc pc = .ok (.iconst nn, 1)) (hv : Int32.ofInt nn = y) (k : zB x G nL Q cs sl (pc + 1) ls (.int y :: st)  n ce) : zB x G nL Q cs sl pc ls st n ce :=
  fun H locs la hP hS hl hnn => lv_iconst F.1 F.2.1 hd hv (k H locs la hP hS hl hnn)
theorem b_bipush (F : zF x G cc nL own fr lo) {nn : Int} {y : Int32} (hd : decode cc pc = .ok (.bipush nn, 2)) (hv : (Int8.ofInt nn).toInt32 = y) (k : zB x G nL Q cs sl (pc + 2) ls (.int y :: st)  n ce) : zB x G nL Q cs sl pc ls st n ce :=
  fun H locs la hP hS hl hnn => lv_bipush F.1 F.2.1 hd hv (k H locs la hP hS hl hnn)
theorem b_sipush (F : zF x G cc nL own fr lo) {nn : Int} {y : Int32} (hd : decode cc pc = .ok (.sipush nn, 3)) (hv : (Int16.ofInt nn).toInt32 = y) (k : zB x G nL Q cs sl (pc + 3) ls (.int y :: st)  n ce) : zB x G nL Q cs sl pc ls st n ce :=
  fun H locs la hP hS hl hnn => lv_sipush F.1 F.2.1 hd hv (k H locs la hP hS hl hnn)
theorem b_iload_n (F : zF x G cc nL own fr lo) {nn : Fin 4} {i : Nat} {y : Int32} (hd : decode cc pc = .ok (.iload_n nn, 1)) (hi : (nn : Nat) = i) (j : Nat) (hj : ls[j]? = some (i, .int y)) (k : zB x G nL Q cs sl (pc + 1) ls (.int y :: st)  n ce) : zB x G nL Q cs sl pc ls st n ce :=
  fun H locs la hP hS hl hnn => lv_iload_n F.1 F.2.1 hd hi (lv_at hl j hj) (k H locs la hP hS hl hnn)
theorem b_iload (F : zF x G cc nL own fr lo) {i : Nat} {y : Int32} (hd : decode cc pc = .ok (.iload i, 2)) (j : Nat) (hj : ls[j]? = some (i, .int y)) (k : zB x G nL Q cs sl (pc + 2) ls (.int y :: st)  n ce) : zB x G nL Q cs sl pc ls st n ce :=
  fun H locs la hP hS hl hnn => lv_iload F.1 F.2.1 hd (lv_at hl j hj) (k H locs la hP hS hl hnn)
theorem b_aload_n (F : zF x G cc nL own fr lo) {nn : Fin 4} {i : Nat} {y : Nat} (hd : decode cc pc = .ok (.aload_n nn, 1)) (hi : (nn : Nat) = i) (j : Nat) (hj : ls[j]? = some (i, .ref y)) (k : zB x G nL Q cs sl (pc + 1) ls (.ref y :: st)  n ce) : zB x G nL Q cs sl pc ls st n ce :=
  fun H locs la hP hS hl hnn => lv_aload_n F.1 F.2.1 hd hi (lv_at hl j hj) (k H locs la hP hS hl hnn)
theorem b_aload (F : zF x G cc nL own fr lo) {i : Nat} {y : Nat} (hd : decode cc pc = .ok (.aload i, 2)) (j : Nat) (hj : ls[j]? = some (i, .ref y)) (k : zB x G nL Q cs sl (pc + 2) ls (.ref y :: st)  n ce) : zB x G nL Q cs sl pc ls st n ce :=
  fun H locs la hP hS hl hnn => lv_aload F.1 F.2.1 hd (lv_at hl j hj) (k H locs la hP hS hl hnn)
theorem b_istore_n (F : zF x G cc nL own fr lo) {nn : Fin 4} {i : Nat} {y : Int32} (lv' : List (Nat × Value)) (hd : decode cc pc = .ok (.istore_n nn, 1)) (hi : (nn : Nat) = i) (hn : i < nL) (hl' : (i, Value.int y) :: ls.filter (fun q => (!(q.1 == i) && !(q.1 + 1 == i && q.2.category == 2))) = lv') (k : zB x G nL Q cs sl (pc + 1) lv' st  n ce) : zB x G nL Q cs sl pc ls (.int y :: st) n ce :=
  fun H locs la hP hS hl hnn => lv_istore_n F.1 F.2.1 hd hi hl hn hl' (fun la' h' => k H locs la' hP hS h' hnn)
theorem b_istore (F : zF x G cc nL own fr lo) {nn : Fin 4} {i : Nat} {y : Int32} (lv' : List (Nat × Value)) (hd : decode cc pc = .ok (.istore i, 2)) (hn : i < nL) (hl' : (i, Value.int y) :: ls.filter (fun q => (!(q.1 == i) && !(q.1 + 1 == i && q.2.category == 2))) = lv') (k : zB x G nL Q cs sl (pc + 2) lv' st  n ce) : zB x G nL Q cs sl pc ls (.int y :: st) n ce :=
  fun H locs la hP hS hl hnn => lv_istore F.1 F.2.1 hd hl hn hl' (fun la' h' => k H locs la' hP hS h' hnn)
theorem b_astore_n (F : zF x G cc nL own fr lo) {nn : Fin 4} {i : Nat} {y : Nat} (lv' : List (Nat × Value)) (hd : decode cc pc = .ok (.astore_n nn, 1)) (hi : (nn : Nat) = i) (hn : i < nL) (hl' : (i, Value.ref y) :: ls.filter (fun q => (!(q.1 == i) && !(q.1 + 1 == i && q.2.category == 2))) = lv') (k : zB x G nL Q cs sl (pc + 1) lv' st  n ce) : zB x G nL Q cs sl pc ls (.ref y :: st) n ce :=
  fun H locs la hP hS hl hnn => lv_astore_n F.1 F.2.1 hd hi hl hn hl' (fun la' h' => k H locs la' hP hS h' hnn)
theorem b_iinc (F : zF x G cc nL own fr lo) {i : Nat} {nn : Int} {y : Int32} {c : Int32} (lv' : List (Nat × Value)) (hd : decode cc pc = .ok (.iinc i nn, 3)) (j : Nat) (hj : ls[j]? = some (i, .int y)) (hc : Int32.ofInt nn = c) (hn : i < nL) (hl' : (i, Value.int (y + c)) :: ls.filter (fun q => (!(q.1 == i) && !(q.1 + 1 == i && q.2.category == 2))) = lv') (k : zB x G nL Q cs sl (pc + 3) lv' st  n ce) : zB x G nL Q cs sl pc ls st n ce :=
  fun H locs la hP hS hl hnn => lv_iinc F.1 F.2.1 hd hl hj (by rw [hc]) hn hl' (fun la' h' => k H locs la' hP hS h' hnn)
theorem b_goto (F : zF x G cc nL own fr lo) {off : Int} (tgt : Nat) (hd : decode cc pc = .ok (.goto off, 3)) (ht : (pc : Int) + off = (tgt : Int)) (k : zB x G nL Q cs sl tgt ls st  n ce) : zB x G nL Q cs sl pc ls st n ce :=
  fun H locs la hP hS hl hnn => lv_goto F.1 F.2.1 hd ht (k H locs la hP hS hl hnn)
theorem b_icmp_ge (F : zF x G cc nL own fr lo) {a b : Int32} {off : Int} (tgt : Nat) (hd : decode cc pc = .ok (.if_icmp .ge off, 3)) (ht : (pc : Int) + off = (tgt : Int)) (kt : b ≤ a → zB x G nL Q cs sl tgt ls st  n ce) (kf : ¬ b ≤ a → zB x G nL Q cs sl (pc + 3) ls st  n ce) : zB x G nL Q cs sl pc ls (.int b :: .int a :: st) n ce :=
  fun H locs la hP hS hl hnn => lv_icmp_ge F.1 F.2.1 hd ht (fun h => kt h H locs la hP hS hl hnn) (fun h => kf h H locs la hP hS hl hnn)
theorem b_icmp_lt (F : zF x G cc nL own fr lo) {a b : Int32} {off : Int} (tgt : Nat) (hd : decode cc pc = .ok (.if_icmp .lt off, 3)) (ht : (pc : Int) + off = (tgt : Int)) (kt : a < b → zB x G nL Q cs sl tgt ls st  n ce) (kf : ¬ a < b → zB x G nL Q cs sl (pc + 3) ls st  n ce) : zB x G nL Q cs sl pc ls (.int b :: .int a :: st) n ce :=
  fun H locs la hP hS hl hnn => lv_icmp_lt F.1 F.2.1 hd ht (fun h => kt h H locs la hP hS hl hnn) (fun h => kf h H locs la hP hS hl hnn)
theorem b_if_lt (F : zF x G cc nL own fr lo) {a : Int32} {off : Int} (tgt : Nat) (hd : decode cc pc = .ok (.ifCond .lt off, 3)) (ht : (pc : Int) + off = (tgt : Int)) (kt : a < 0 → zB x G nL Q cs sl tgt ls st  n ce) (kf : ¬ a < 0 → zB x G nL Q cs sl (pc + 3) ls st  n ce) : zB x G nL Q cs sl pc ls (.int a :: st) n ce :=
  fun H locs la hP hS hl hnn => lv_if_lt F.1 F.2.1 hd ht (fun h => kt h H locs la hP hS hl hnn) (fun h => kf h H locs la hP hS hl hnn)
theorem b_if_ge (F : zF x G cc nL own fr lo) {a : Int32} {off : Int} (tgt : Nat) (hd : decode cc pc = .ok (.ifCond .ge off, 3)) (ht : (pc : Int) + off = (tgt : Int)) (kt : 0 ≤ a → zB x G nL Q cs sl tgt ls st  n ce) (kf : ¬ 0 ≤ a → zB x G nL Q cs sl (pc + 3) ls st  n ce) : zB x G nL Q cs sl pc ls (.int a :: st) n ce :=
  fun H locs la hP hS hl hnn => lv_if_ge F.1 F.2.1 hd ht (fun h => kt h H locs la hP hS hl hnn) (fun h => kf h H locs la hP hS hl hnn)
theorem b_dup (F : zF x G cc nL own fr lo) {a : Value} (hd : decode cc pc = .ok (.dup, 1)) (ha : a.category = 1) (k : zB x G nL Q cs sl (pc + 1) ls (a :: a :: st)  n ce) : zB x G nL Q cs sl pc ls (a :: st) n ce :=
  fun H locs la hP hS hl hnn => lv_dup F.1 F.2.1 hd ha (k H locs la hP hS hl hnn)
theorem b_iadd (F : zF x G cc nL own fr lo) {a b : Int32} (hd : decode cc pc = .ok (.iadd, 1)) (k : zB x G nL Q cs sl (pc + 1) ls (.int (a + b) :: st)  n ce) : zB x G nL Q cs sl pc ls (.int b :: .int a :: st) n ce :=
  fun H locs la hP hS hl hnn => lv_iadd F.1 F.2.1 hd (k H locs la hP hS hl hnn)
theorem b_isub (F : zF x G cc nL own fr lo) {a b : Int32} (hd : decode cc pc = .ok (.isub, 1)) (k : zB x G nL Q cs sl (pc + 1) ls (.int (a - b) :: st)  n ce) : zB x G nL Q cs sl pc ls (.int b :: .int a :: st) n ce :=
  fun H locs la hP hS hl hnn => lv_isub F.1 F.2.1 hd (k H locs la hP hS hl hnn)
theorem b_imul (F : zF x G cc nL own fr lo) {a b : Int32} (hd : decode cc pc = .ok (.imul, 1)) (k : zB x G nL Q cs sl (pc + 1) ls (.int (a * b) :: st)  n ce) : zB x G nL Q cs sl pc ls (.int b :: .int a :: st) n ce :=
  fun H locs la hP hS hl hnn => lv_imul F.1 F.2.1 hd (k H locs la hP hS hl hnn)
theorem b_pop (F : zF x G cc nL own fr lo) {a : Value} (hd : decode cc pc = .ok (.pop, 1)) (ha : a.category = 1) (k : zB x G nL Q cs sl (pc + 1) ls st  n ce) : zB x G nL Q cs sl pc ls (a :: st) n ce :=
  fun H locs la hP hS hl hnn => lv_pop F.1 F.2.1 hd ha (k H locs la hP hS hl hnn)
theorem b_if_ne (F : zF x G cc nL own fr lo) {a : Int32} {off : Int} (tgt : Nat) (hd : decode cc pc = .ok (.ifCond .ne off, 3)) (ht : (pc : Int) + off = (tgt : Int)) (kt : ¬ a = 0 → zB x G nL Q cs sl tgt ls st  n ce) (kf : a = 0 → zB x G nL Q cs sl (pc + 3) ls st  n ce) : zB x G nL Q cs sl pc ls (.int a :: st) n ce :=
  fun H locs la hP hS hl hnn => lv_if_ne F.1 F.2.1 hd ht (fun h => kt h H locs la hP hS hl hnn) (fun h => kf h H locs la hP hS hl hnn)
theorem b_if_eq (F : zF x G cc nL own fr lo) {a : Int32} {off : Int} (tgt : Nat) (hd : decode cc pc = .ok (.ifCond .eq off, 3)) (ht : (pc : Int) + off = (tgt : Int)) (kt : a = 0 → zB x G nL Q cs sl tgt ls st  n ce) (kf : ¬ a = 0 → zB x G nL Q cs sl (pc + 3) ls st  n ce) : zB x G nL Q cs sl pc ls (.int a :: st) n ce :=
  fun H locs la hP hS hl hnn => lv_if_eq F.1 F.2.1 hd ht (fun h => kt h H locs la hP hS hl hnn) (fun h => kf h H locs la hP hS hl hnn)
theorem b_lconst (F : zF x G cc nL own fr lo) {nn : Fin 2} {y : Int64} (hd : decode cc pc = .ok (.lconst nn, 1)) (hv : Int64.ofNat (nn : Nat) = y) (k : zB x G nL Q cs sl (pc + 1) ls (.long y :: st)  n ce) : zB x G nL Q cs sl pc ls st n ce :=
  fun H locs la hP hS hl hnn => lv_lconst F.1 F.2.1 hd hv (k H locs la hP hS hl hnn)
theorem b_ls (ls' : List (Nat × Value)) (ks : List Nat) (h : lv_pick ls ks = ls') (k : zB x G nL Q cs sl pc ls' st n ce) : zB x G nL Q cs sl pc ls st n ce :=
  fun H locs la hP hS hl hn => k H locs la hP hS (lv_sub hl ks h) hn
theorem b_id (k : zB x G nL Q cs sl pc ls st n ce) : zB x G nL Q cs sl pc ls st n ce := k
theorem b_wide {sl' : Nat} (h2 : sl ≤ sl') (k : zB x G nL Q cs sl' pc ls st n ce) : zB x G nL Q cs sl pc ls st n ce :=
  fun H locs la hP hS hl hn => W.widen (k := cs) (n := sl') (Nat.le_refl _) h2 (k H locs la hP hS hl hn)
theorem b_getR (F : zF x G cc nL own fr lo) {i idx c N : Nat} {C : String} {T : u_T} {fs : List Value} {w : Value} (hc : vwCl[c]? = some (C, T, N)) (hin : ∀ w ∈ u_ws C T N, w ∈ zTbl) (k : Nat) (hk : k < N) (hi : i < n) (he : ce i = .inr (c, fs)) (hw : fs[k]? = some w) (hlink : Cond.fieldLink own idx (T k).1 (T k).2.1 (T k).2.2.1 ∈ zTbl) (hd : decode cc pc = .ok (.getfield idx, 3)) (kk : zB x G nL Q cs sl (pc + 3) ls (w :: st) n ce) : zB x G nL Q cs sl pc ls (zr G i :: st) n ce :=
  fun H locs la hP hS hl hn => va_get F.1 F.2.1 F.2.2.2.2.1 hin F.2.2.2.1 F.2.2.2.2.2.1 hP i (by rw [zWb_at G ce hi, he]) hc k hk (F.2.2.2.2.1 _ hlink) (fun _ h => h) hw hd (kk H locs la hP hS hl hn)
theorem b_put (F : zF x G cc nL own fr lo) {i idx c N : Nat} {C : String} {T : u_T} {fs : List Value} {w : Value} {ty : FieldType} (ty0 : Nat → FieldType) (hty : ∀ k, k < N → parseFieldDescriptor (T k).2.2.1 = some (ty0 k)) (hnm : ∀ a, a < N → ∀ b, b < N → a ≠ b → (T a).2.1 ≠ (T b).2.1) (hc : vwCl[c]? = some (C, T, N)) (hin : ∀ w ∈ u_ws C T N, w ∈ zTbl) (k : Nat) (hk : k < N) (hfin : (T k).2.2.2 = false) (hdt : parseFieldDescriptor (T k).2.2.1 = some ty) (hnar : narrow ty w = w) (hfit : fits ty w = true) (hi : i < n) (he : ce i = .inr (c, fs)) (hl0 : k < fs.length) (hlink : Cond.fieldLink own idx (T k).1 (T k).2.1 (T k).2.2.1 ∈ zTbl) (hd : decode cc pc = .ok (.putfield idx, 3)) (kk : zB x G nL Q cs sl (pc + 3) ls st n (bup ce i (.inr (c, fs.set k w)))) : zB x G nL Q cs sl pc ls (w :: zr G i :: st) n ce :=
  fun H locs la hP hS hl hn => va_put F.1 F.2.1 F.2.2.2.2.1 hin ty0 hty hnm F.2.2.2.1 F.2.2.2.2.2.1 hP (zWb_D G n ce) hS i (by rw [zWb_at G ce hi, he]) hc k hk (F.2.2.2.2.1 _ hlink) (fun _ h => h) hfin hdt hnar hfit hl0 hd (fun H1 l1 hP1 _ hS1 => kk H1 l1 la (by rw [zWb_set G n ce i hi] at hP1; exact hP1) hS1 hl hn)
theorem b_putF (F : zF x G cc nL own fr lo) (hini : x.2.2.2.2.2.2.2.2.1.name = "<init>") {i idx c N : Nat} {C : String} {T : u_T} {fs : List Value} {w : Value} {ty : FieldType} (ty0 : Nat → FieldType) (hty : ∀ k, k < N → parseFieldDescriptor (T k).2.2.1 = some (ty0 k)) (hnm : ∀ a, a < N → ∀ b, b < N → a ≠ b → (T a).2.1 ≠ (T b).2.1) (hc : vwCl[c]? = some (C, T, N)) (hin : ∀ w ∈ u_ws C T N, w ∈ zTbl) (k : Nat) (hk : k < N) (hfin : (T k).2.2.2 = true) (hdecl : (T k).1 = own) (hdt : parseFieldDescriptor (T k).2.2.1 = some ty) (hnar : narrow ty w = w) (hfit : fits ty w = true) (hi : i < n) (he : ce i = .inr (c, fs)) (hl0 : k < fs.length) (hlink : Cond.fieldLink own idx (T k).1 (T k).2.1 (T k).2.2.1 ∈ zTbl) (hd : decode cc pc = .ok (.putfield idx, 3)) (kk : zB x G nL Q cs sl (pc + 3) ls st n (bup ce i (.inr (c, fs.set k w)))) : zB x G nL Q cs sl pc ls (w :: zr G i :: st) n ce :=
  fun H locs la hP hS hl hn => va_putF F.1 F.2.1 F.2.2.2.2.1 hin ty0 hty hnm F.2.2.2.1 F.2.2.2.2.2.1 hP (zWb_D G n ce) hS i (by rw [zWb_at G ce hi, he]) hc k hk (F.2.2.2.2.1 _ hlink) (fun _ h => h) hfin hini hdecl hdt hnar hfit hl0 hd (fun H1 l1 hP1 _ hS1 => kk H1 l1 la (by rw [zWb_set G n ce i hi] at hP1; exact hP1) hS1 hl hn)
theorem b_new (F : zF x G cc nL own fr lo) {idx c N : Nat} {C : String} {T : u_T} {fs : List Value} (ty : Nat → FieldType) (hty : ∀ k, k < N → parseFieldDescriptor (T k).2.2.1 = some (ty k)) (hc : vwCl[c]? = some (C, T, N)) (hin : ∀ w ∈ u_ws C T N, w ∈ zTbl) (hcl : Cond.classLink own idx C ∈ zTbl) (hinst : Cond.instantiable C N ∈ zTbl) (hini : Cond.initialized C ∈ zTbl) (hfs : ∀ j, j < N → defaultValue (ty j) = vp_V fs j) (hcs : cs + 1 ≤ x.2.2.2.1.cells ∧ sl + N ≤ x.2.2.2.1.slots) (hd : decode cc pc = .ok (.new idx, 3)) (kk : zB x G nL Q (cs + 1) (sl + N) (pc + 3) ls (zr G n :: st) (n + 1) (bup ce n (.inr (c, fs)))) : zB x G nL Q cs sl pc ls st n ce := by
  refine b_sized F (fun H locs la hP hS hl hn hsz => ?_)
  have hKn := F.2.2.2.2.2.1.1 c _ hc
  refine W.newcK F.1 F.2.1 F.2.2.2.1 (F.2.2.2.2.1 _ hcl) (F.2.2.2.2.1 _ hinst) (F.2.2.2.2.1 _ hini) rfl hd hcs.1 hcs.2 hKn.2.1 hsz (fun H1 kC hkC e1 z1 o1 => ?_)
  refine kk H1 locs la (zWb_push hP (fun q hq => o1 q (by omega)) ⟨_, hc, (u_born ty F.2.2.2.2.1 hin hKn hkC e1 hty).to hfs⟩) ⟨Nat.le_trans hS.1 (by omega), fun q h1 h2 => (o1 q (by have := hS.1; omega)).trans (hS.2.1 q h1 h2), hS.2.2⟩ hl (by omega)
theorem b_newa (F : zF x G cc nL own fr lo) {atype : ArrayType} {ty : FieldType} (t : Nat) {a0 : vp_A} (hty : newarray.typeOf atype = ty) (ht : (zTy G)[t]? = some (G.2.1 t, ty)) (hnr : ∀ C, ty ≠ .object C) (harr : Cond.arrayClass ty ∈ zTbl) {m : Int32} {N' : Nat} (ha : ∀ cA : ClassId, vp_cell cA a0 = arrV cA N' (fun _ => defaultValue ty)) (hm : ¬ m < 0) (hN : m.toNatClampNeg = N') (hbytes : N' * componentBytes ty ≤ 536870912) (hcs : cs + 1 ≤ x.2.2.2.1.cells ∧ sl + N' ≤ x.2.2.2.1.slots) (hd : decode cc pc = .ok (.newarray atype, 2)) (kk : zB x G nL Q (cs + 1) (sl + N') (pc + 2) ls (zr G n :: st) (n + 1) (bup ce n (.inl (G.2.1 t, a0)))) : zB x G nL Q cs sl pc ls (.int m :: st) n ce := by
  refine b_sized F (fun H locs la hP hS hl hn hsz => ?_)
  subst hty
  refine va_newaK F.1 F.2.1 (F.2.2.2.2.1 _ harr) rfl hd rfl hm hN hbytes hcs.1 hcs.2 hsz (fun H1 cA e1 z1 o1 hAr hNm => ?_)
  have hRA := (F.2.2.2.2.2.1.2 t _ ht).2
  have hcA : cA = G.2.1 t := by
    have h2 : x.2.2.2.2.1.vm.findClass ("[" ++ (newarray.typeOf atype).toString) = some (G.2.1 t) := by
      revert hRA hnr
      cases newarray.typeOf atype <;> intro hnr hRA <;> first | exact hRA | exact absurd rfl (hnr _)
    exact Option.some.inj (hNm.symm.trans h2)
  subst hcA
  refine kk H1 locs la (zWb_push hP (fun q hq => o1 q (by omega)) (by show H1[G.2.2 + n]? = some (vp_cell _ _); rw [ha]; exact e1)) ⟨Nat.le_trans hS.1 (by omega), fun q h1 h2 => (o1 q (by have := hS.1; omega)).trans (hS.2.1 q h1 h2), hS.2.2⟩ hl (by omega)
theorem b_newq (F : zF x G cc nL own fr lo) {idx : Nat} (hcl : Cond.classLink own idx RX7 ∈ zTbl) (hov : Cond.arrayOver (.object RX7) ∈ lw_tbl) {m : Int32} {N' : Nat} (hm : ¬ m < 0) (hN : m.toNatClampNeg = N') (hbytes : N' * 4 ≤ 536870912) (hcs : cs + 1 ≤ x.2.2.2.1.cells ∧ sl + N' ≤ x.2.2.2.1.slots) (hd : decode cc pc = .ok (.anewarray idx, 3)) (kk : zB x G nL Q (cs + 1) (sl + N') (pc + 3) ls (zr G n :: st) (n + 1) (bup ce n (.inl (G.2.1 4, N', .inr (.inr (.inr (.inr (fun _ => none)))))))) : zB x G nL Q cs sl pc ls (.int m :: st) n ce := by
  refine b_sized F (fun H locs la hP hS hl hn hsz => ?_)
  subst hN
  refine W.anew F.1 F.2.1 F.2.2.2.1 (F.2.2.2.2.1 _ hcl) (z_ao F.2.2.2.2.2.2.2.2 hov) rfl hd rfl hm hbytes hcs.1 hcs.2 (fun cA kA comp f1 f2 f3 f4 => ?_)
  obtain ⟨kA', comp', g1, g2, g3, g4⟩ := (F.2.2.2.2.2.1.2 4 _ rfl).2
  have hcA : cA = G.2.1 4 := Option.some.inj (f1.symm.trans g4)
  subst hcA
  rw [show H.size = G.2.2 + n from hsz]
  refine kk _ locs la (zWb_push hP (fun q hq => by rw [Array.getElem?_push, if_neg (Nat.ne_of_lt hq)]) ?_) ⟨Nat.le_trans hS.1 (by rw [Array.size_push]; omega), fun q h1 h2 => ?_, hS.2.2⟩ hl (by omega)
  · show (H.push _)[G.2.2 + n]? = some (vp_cell _ _)
    rw [← hsz, Array.getElem?_push_size, vp_cell_q, ← arrV_new]
    rfl
  · rw [Array.getElem?_push, if_neg (by have := hS.1; omega)]
    exact hS.2.1 q h1 h2
theorem b_aast (F : zF x G cc nL own fr lo) {a v : Nat} {N' : Nat} {f : Nat → Option Nat} {vs : List Value} {i : Int32} (hi : a < n) (hv : v < n) (he : ce a = .inl (G.2.1 4, N', .inr (.inr (.inr (.inr f))))) (hev : ce v = .inr (7, vs)) (hin : vp_in i N') (hd : decode cc pc = .ok (.aastore, 1)) (kk : zB x G nL Q cs sl (pc + 1) ls st n (bup ce a (.inl (G.2.1 4, N', .inr (.inr (.inr (.inr (va_up f i.toNatClampNeg (some (G.2.2 + v))))))))) ) : zB x G nL Q cs sl pc ls (zr G v :: .int i :: zr G a :: st) n ce :=
  fun H locs la hP hS hl hn => va_astq F.1 F.2.1 F.2.2.2.2.2.1 hP (zWb_D G n ce) hS a 4 v 7 (r := (RX7, TX7, 13)) (by rw [zWb_at G ce hi, he]) rfl (by rw [zWb_at G ce hv, hev]) rfl hin hd (fun H1 l1 hP1 _ hS1 => kk H1 l1 la (by rw [zWb_set G n ce a hi] at hP1; exact hP1) hS1 hl hn)
theorem b_alen4 (F : zF x G cc nL own fr lo) {a N' : Nat} {f : Nat → Option Nat} {y : Int32} (hi : a < n) (he : ce a = .inl (G.2.1 4, N', .inr (.inr (.inr (.inr f))))) (hy : Int32.ofNat N' = y) (hd : decode cc pc = .ok (.arraylength, 1)) (k : zB x G nL Q cs sl (pc + 1) ls (.int y :: st) n ce) : zB x G nL Q cs sl pc ls (zr G a :: st) n ce :=
  fun H locs la hP hS hl hn => va_alen F.1 F.2.1 F.2.2.2.2.2.1 hP a 4 (by rw [zWb_at G ce hi, he]) rfl hy hd (k H locs la hP hS hl hn)
theorem b_alen0 (F : zF x G cc nL own fr lo) {a N' : Nat} {f : Nat → Int32} {y : Int32} (hi : a < n) (he : ce a = .inl (G.2.1 0, N', .inl f)) (hy : Int32.ofNat N' = y) (hd : decode cc pc = .ok (.arraylength, 1)) (k : zB x G nL Q cs sl (pc + 1) ls (.int y :: st) n ce) : zB x G nL Q cs sl pc ls (zr G a :: st) n ce :=
  fun H locs la hP hS hl hn => va_alen F.1 F.2.1 F.2.2.2.2.2.1 hP a 0 (by rw [zWb_at G ce hi, he]) rfl hy hd (k H locs la hP hS hl hn)
theorem b_iast (F : zF x G cc nL own fr lo) {a N' : Nat} {f : Nat → Int32} {i y : Int32} (hi : a < n) (he : ce a = .inl (G.2.1 0, N', .inl f)) (hin : vp_in i N') (hd : decode cc pc = .ok (.iastore, 1)) (k : zB x G nL Q cs sl (pc + 1) ls st n (bup ce a (.inl (G.2.1 0, N', .inl (upd f i.toNatClampNeg y))))) : zB x G nL Q cs sl pc ls (.int y :: .int i :: zr G a :: st) n ce :=
  fun H locs la hP hS hl hn => va_iast F.1 F.2.1 F.2.2.2.2.2.1 hP (zWb_D G n ce) hS a 0 (by rw [zWb_at G ce hi, he]) rfl hin hd (fun H1 l1 hP1 _ hS1 => k H1 l1 la (by rw [zWb_set G n ce a hi] at hP1; exact hP1) hS1 hl hn)
theorem b_obj (F : zF x G cc nL own fr lo) {idx i : Nat} (hl1 : Cond.methodLink own idx objectInit ∈ zTbl) (hl2 : Cond.instanceMethod objectInit ∈ zTbl) (hl3 : Cond.code objectInit ⟨#[0xb1]⟩ 1 none ∈ zTbl) (hfr : 1 ≤ fr) (hlo : 20 ≤ lo) (hW : (st.map fun q => q.category).sum ≤ 8) (hd : decode cc pc = .ok (.invokespecial idx, 3)) (k : zB x G nL Q cs sl (pc + 3) ls st n ce) : zB x G nL Q cs sl pc ls (zr G i :: st) n ce :=
  fun H locs la hP hS hl hn => W.objInit F.1 F.2.1 F.2.2.2.1 (F.2.2.2.2.1 _ hl1) (F.2.2.2.2.1 _ hl2) (F.2.2.2.2.1 _ hl3) rfl (by rw [F.2.2.1]; exact hl.1) rfl hd (Nat.le_trans hfr F.2.2.2.2.2.2.1) (by
    have h1 := F.2.2.2.2.2.2.2.1
    show 2 * 0 + _ + 12 ≤ _
    omega) (k H locs la hP hS hl hn)
def zBs (G : zG) (n : Nat) (ce : Nat → va_E) (U : State) : Prop := va_P G.1 vwCl (zWb G n ce) U.heap ∧ va_K G.1 vwCl (zTy G) U ∧ zOld G U ∧ U.heap.size ≤ G.2.2 + n
def zBM (l : Launch) (y : MethodName) (cc : ByteArray) (nL : Nat) (ret : Option FieldType) (fr lo mc ms : Nat) (av : List Value) (G : zG) (n : Nat) (ce : Nat → va_E) (n' : Nat) (ce' : Nat → va_E) : Prop :=
  Met l y (Cond.code y cc nL ret :: zTbl) { frames := fr, cells := mc, slots := ms, locals := lo } (va_Pc av (zBs G n ce)) (fun _ st oc t => (oc = .returned none ∧ va_P G.1 vwCl (zWb G n' ce') t.heap) ∧ va_F (zA G) st t) mc ms (zA G)
def zBQ (x : zCx) (G : zG) (n' : Nat) (ce' : Nat → va_E) (mc ms : Nat) : State → Prop := MQ x.2.2.2.2.2.2.2.1 (fun _ st oc t => (oc = .returned none ∧ va_P G.1 vwCl (zWb G n' ce') t.heap) ∧ va_F (zA G) st t) x.2.2.2.2.2.2.1 x.2.2.2.2.1 mc ms (zA G)
theorem b_ret (F : zF x G cc nL own fr lo) {ce' : Nat → va_E} (hr : x.2.2.2.2.2.2.2.2.1.sig.returnType = none) (hlocks : x.2.2.2.2.2.2.2.2.1.locks = false) (hce : ∀ i, i < n → ce' i = ce i) (hd : decode cc pc = .ok (.return_, 1)) : zB x G nL (zBQ x G n ce' cs sl) cs sl pc ls [] n ce :=
  fun _ _ _ hP hS _ _ => W.vret F.1 F.2.1 hr (fun _ ht _ => ⟨⟨rfl, by rw [ht]; exact zWb_P (fun i hi => by rw [hce i hi]; exact zWb_A hP hi)⟩, hS.F ht⟩) hS.2.2 hd hlocks
theorem b_pre (F : zF x G cc nL own fr lo) {H : Heap} {locs : List Loc} (hP : va_P G.1 vwCl (zWb G n ce) H) (hS : va_S (zA G) x.2.2.2.2.1.heap H locs) (hsz : H.size = G.2.2 + n) {av : List Value} : PreS x.2.2.2.2.1 H (va_Pc av (zBs G n ce)) av := by
  obtain ⟨s0, a0, h1, h2, h3, h4, h5, h6⟩ := F.2.2.2.2.2.2.2.2
  have hle := zOld_le F.2.2.2.2.2.2.2.2
  refine ⟨fun a U g mk q => ⟨q.1, q.2.1, va_K.moved (u := U) (U := U.calling g mk a) (Vm.Alike.refl U.vm) q.2.2.1, q.2.2.2.1, q.2.2.2.2⟩, fun U hU hW => ⟨rfl, by rw [hU]; exact hP, va_K.moved hW.alike F.2.2.2.2.2.1, ⟨s0, a0, h1, h2, h3, State.WarmedH.trans h4 hW, fun q hq => ?_, h6⟩, by rw [hU]; omega⟩⟩
  rw [hU, hS.2.1 q (by omega) (Nat.not_le.mpr hq)]
  exact h5 q hq
theorem b_ran {mc ms n' : Nat} {rest : List Value} {ce' : Nat → va_E} {H : Heap} {locs : List Loc} {la : Array Slot} (hS : va_S (zA G) x.2.2.2.2.1.heap H locs) (hl : lv_has la nL ls) (hn : x.2.2.2.2.1.heap.size + cs ≤ G.2.2 + n) (hmc : n + mc = n')
    (hr : va_Run x.1 x.2.1 x.2.2.1 x.2.2.2.1 x.2.2.2.2.1 x.2.2.2.2.2.1 x.2.2.2.2.2.2.1 x.2.2.2.2.2.2.2.1 x.2.2.2.2.2.2.2.2.1 x.2.2.2.2.2.2.2.2.2 H locs cs sl mc ms (F0 x.2.2.2.2.2.1 pc la st) rest (fun st oc t => (oc = .returned none ∧ va_P G.1 vwCl (zWb G n' ce') t.heap) ∧ va_F (zA G) st t) (zA G))
    (k : zB x G nL Q (cs + mc) (sl + ms) (pc + 3) ls rest n' ce') : W x.1 x.2.1 x.2.2.1 x.2.2.2.1 x.2.2.2.2.1 x.2.2.2.2.2.1 x.2.2.2.2.2.2.1 x.2.2.2.2.2.2.2.1 x.2.2.2.2.2.2.2.2.1 x.2.2.2.2.2.2.2.2.2 H locs cs sl Q (F0 x.2.2.2.2.2.1 pc la st) := by
  intro T hT X
  obtain ⟨w, st₀, t, T', L, h0, X', hL, e1, e2, ⟨⟨hv, hp⟩, hz, hk⟩, sp⟩ := hr T hT X
  cases hv
  rw [h0] at hz hk
  obtain ⟨t2, a1, b1⟩ := k T'.heap (locs ++ L) la (by rw [e1]; exact hp) ⟨Nat.le_trans hS.1 (by rw [e1]; exact hz), fun q h1 h2 => by rw [e1, hk q (Nat.lt_of_lt_of_le h1 hS.1) h2]; exact hS.2.1 q h1 h2, fun q hq => by
      rcases List.mem_append.mp hq with h | h
      · exact hS.2.2 q h
      · exact hL q h⟩ hl (by omega) T' rfl X'
  exact ⟨t2, sp t2 a1, b1⟩
/-- a constructor's call -/
theorem b_callI (F : zF x G cc nL own fr lo) {y : MethodName} {cc' : ByteArray} {nL' fr' lo' mc ms m i idx n' : Nat} {ce' : Nat → va_E} (As rest : List Value) (hM : zBM x.2.1 y cc' nL' none fr' lo' mc ms (zr G i :: As) G n ce n' ce') (hI : zMI y cc' nL' none m) (hmc : n + mc = n')
    (hl1 : Cond.methodLink own idx y ∈ zTbl) (hl2 : Cond.instanceMethod y ∈ zTbl) (hyn : y.name = "<init>") (hd : decode cc pc = .ok (.invokespecial idx, 3)) (hm : As.length = m) (hroom : fr' + 1 ≤ fr ∧ 8 + (nL' + 11) + lo' ≤ lo) (hst : st = As.reverse ++ zr G i :: rest) (hW : (rest.map fun q => q.category).sum ≤ 8) (hcs : cs + mc ≤ x.2.2.2.1.cells ∧ sl + ms ≤ x.2.2.2.1.slots) (k : zB x G nL Q (cs + mc) (sl + ms) (pc + 3) ls rest n' ce') : zB x G nL Q cs sl pc ls st n ce := by
  intro H locs la hP hS hl hn T hT X
  have hsz := b_size F hP hS hn hT X
  refine b_ran hS hl hn hmc (va_runI (b := G.2.2 + i) (As := As) (rest := rest) ⟨F.1, F.2.1, F.2.2.1, F.2.2.2.1, F.2.2.2.2.1⟩ hM ⟨⟨rfl, rfl, Nat.le_trans hroom.1 F.2.2.2.2.2.2.1, Nat.le_trans hroom.2 F.2.2.2.2.2.2.2.1, pay_in F.2.2.2.2.1 (zGood hI.1), List.mem_cons_self, F.2.2.2.2.1 _ hI.1, F.2.2.2.2.1 _ hI.2.1, hI.2.2.1, fun sig h => ?_, F.2.2.2.2.1 _ hl1⟩, hyn, F.2.2.2.2.1 _ hl2⟩ (b_pre F hP hS hsz) rfl hm hl.1 hst (lv_room hW) hd hcs) k T hT X
  have h2 := hI.2.2.2
  rw [h] at h2
  exact (Option.some.inj h2).symm
theorem b_callIN (F : zF x G cc nL own fr lo) {y : MethodName} {cc' : ByteArray} {nL' fr' lo' mc ms m i idx n' : Nat} {ce' : Nat → va_E} {host : String} (As rest : List Value) (hM : zBM x.2.1 y cc' nL' none fr' lo' mc ms (zr G i :: As) G n ce n' ce') (hI : zMI y cc' nL' none m) (hmc : n + mc = n')
    (hl1 : Cond.methodLinkNest own idx y host ∈ lw_tbl) (hl2 : Cond.instanceMethod y ∈ zTbl) (hyn : y.name = "<init>") (hd : decode cc pc = .ok (.invokespecial idx, 3)) (hm : As.length = m) (hroom : fr' + 1 ≤ fr ∧ 8 + (nL' + 11) + lo' ≤ lo) (hst : st = As.reverse ++ zr G i :: rest) (hW : (rest.map fun q => q.category).sum ≤ 8) (hcs : cs + mc ≤ x.2.2.2.1.cells ∧ sl + ms ≤ x.2.2.2.1.slots) (k : zB x G nL Q (cs + mc) (sl + ms) (pc + 3) ls rest n' ce') : zB x G nL Q cs sl pc ls st n ce := by
  intro H locs la hP hS hl hn T hT X
  have hsz := b_size F hP hS hn hT X
  refine b_ran hS hl hn hmc (va_runIN (host := host) (b := G.2.2 + i) (As := As) (rest := rest) ⟨F.1, F.2.1, F.2.2.1, F.2.2.2.1, F.2.2.2.2.1⟩ hM ⟨⟨⟨rfl, rfl, Nat.le_trans hroom.1 F.2.2.2.2.2.2.1, Nat.le_trans hroom.2 F.2.2.2.2.2.2.2.1, pay_in F.2.2.2.2.1 (zGood hI.1), List.mem_cons_self⟩, F.2.2.2.2.1 _ hI.1, F.2.2.2.2.1 _ hI.2.1, hI.2.2.1, fun sig h => ?_, va_Nw.use rfl (z_nest F hl1)⟩, hyn, F.2.2.2.2.1 _ hl2⟩ (b_pre F hP hS hsz) rfl hm hl.1 hst (lv_room hW) hd hcs) k T hT X
  have h2 := hI.2.2.2
  rw [h] at h2
  exact (Option.some.inj h2).symm
/-- a call of a method that makes nothing -/
theorem b_callV (F : zF x G cc nL own fr lo) {y : MethodName} {cc' : ByteArray} {nL' fr' lo' ms m i idx c N : Nat} {T0 : u_T} {C : String} {ce' : Nat → va_E} {fs : List Value} (As rest : List Value) (hM : zBM x.2.1 y cc' nL' none fr' lo' 0 ms (zr G i :: As) G n ce n ce') (hI : zMI y cc' nL' none m) (hc : vwCl[c]? = some (C, T0, N)) (hi : i < n) (he : ce i = .inr (c, fs))
    (hl1 : Cond.methodLink own idx y ∈ zTbl) (hl2 : Cond.instanceMethod y ∈ zTbl) (hl3 : Cond.selects C y y ∈ zTbl) (hd : decode cc pc = .ok (.invokevirtual idx, 3)) (hm : As.length = m) (hroom : fr' + 1 ≤ fr ∧ 8 + (nL' + 11) + lo' ≤ lo) (hst : st = As.reverse ++ zr G i :: rest) (hW : (rest.map fun q => q.category).sum ≤ 8) (hcs : cs ≤ x.2.2.2.1.cells ∧ sl + ms ≤ x.2.2.2.1.slots) (k : zB x G nL Q (cs + 0) (sl + ms) (pc + 3) ls rest n ce') : zB x G nL Q cs sl pc ls st n ce := by
  intro H locs la hP hS hl hn T hT X
  have hsz := b_size F hP hS hn hT X
  have hpre := b_pre F hP hS hsz (av := zr G i :: As)
  have hrec := va_recv F.2.2.2.2.2.1 hP hc (show (zWb G n ce)[i]? = some (G.2.2 + i, .inr (c, fs)) by rw [zWb_at G ce hi, he])
  refine b_ran hS hl hn rfl (va_runV (C := C) (b := G.2.2 + i) (As := As) (rest := rest) ⟨F.1, F.2.1, F.2.2.1, F.2.2.2.1, F.2.2.2.2.1⟩ hM ⟨⟨rfl, rfl, Nat.le_trans hroom.1 F.2.2.2.2.2.2.1, Nat.le_trans hroom.2 F.2.2.2.2.2.2.2.1, pay_in F.2.2.2.2.1 (zGood hI.1), List.mem_cons_self, F.2.2.2.2.1 _ hI.1, F.2.2.2.2.1 _ hI.2.1, hI.2.2.1, fun sig h => ?_, F.2.2.2.2.1 _ hl1⟩, F.2.2.2.2.1 _ hl2, F.2.2.2.2.1 _ hl3⟩ ⟨hpre.1, hrec, hpre.2⟩ rfl hm hl.1 hst (lv_room hW) hd hcs) k T hT X
  have h2 := hI.2.2.2
  rw [h] at h2
  exact (Option.some.inj h2).symm
end ZB
theorem zBM_of {l : Launch} {y : MethodName} {cc : ByteArray} {nL : Nat} {ret : Option FieldType} {fr lo mc ms : Nat} {av : List Value} {G : zG} {n n' : Nat} {ce ce' : Nat → va_E} {own : String} (hy : plainName y.cls = true) (ho : y.cls = own) (hav : (lg_sl av).length ≤ nL)
    (body : ∀ x : zCx, x.2.1 = l → zF x G cc nL own fr lo → x.2.2.2.2.2.2.2.2.1.sig.returnType = ret → x.2.2.2.2.2.2.2.2.1.locks = false → mc ≤ x.2.2.2.1.cells ∧ ms ≤ x.2.2.2.1.slots → x.2.2.2.2.2.2.2.2.1.name = y.name → zB x G nL (zBQ x G n' ce' mc ms) 0 0 0 (lv_args 0 av) [] n ce) : zBM l y cc nL ret fr lo mc ms av G n ce n' ce' := by
  refine Met.ofW (cc := cc) (maxL := nL) (ret := ret) hy rfl ?_
  intro p e s m args below meth c s₁ B hml hv
  obtain ⟨rfl, hP, hK, hO, hsz⟩ := hv
  have hts := atoms_spec (ws := Cond.code y cc nL ret :: zTbl) B.pre
  have hown : s.vm.findClass y.cls = some m.cls := findClass_of_methodNamed B.named
  have h := body (p, l, e, { frames := fr, cells := mc, slots := ms, locals := lo }, s, m, av.toArray, below, meth, c) rfl ⟨B.exec, B.bytes, hml, by rw [← ho]; exact hown, fun w hw => hts w (List.mem_cons_of_mem _ hw), hK, Nat.le_refl _, Nat.le_refl _, hO⟩ B.returns B.notSynchronized ⟨Nat.le_refl _, Nat.le_refl _⟩ (name_of_methodNamed B.named B.method).1
  have hl := lv_entry av (n := nL) hav
  rw [lg_entry_eq]
  exact h s.heap [] _ hP va_S.rf hl hsz

