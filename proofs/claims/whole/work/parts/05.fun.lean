/-! THE LANGUAGE OF THE FUNCTIONS: what each method does, as a function of its arguments and of the ints of the heap; none: it went wrong, or on too long -/
def zFU : Nat := 100000
def zlet {α β : Type} (e : α) (B : α → β) : β := B e
def zix {β : Type} (i : Int32) (n : Nat) (k : Option β) : Option β := if i < 0 ∨ n ≤ i.toNatClampNeg then none else k
def znz {β : Type} (b : Int32) (k : Option β) : Option β := if b = 0 then none else k
def zbl {β : Type} (b : Int32) (k : Option β) : Option β := if b = 0 ∨ b = 1 then k else none
def zbind {α β : Type} (m : Option (α × zV)) (k : α → zV → Option β) : Option β := match m with
  | none => none
  | some q => k q.1 q.2
def zbindv {β : Type} (m : Option zV) (k : zV → Option β) : Option β := match m with
  | none => none
  | some q => k q
def zmax (a b : Int32) : Int32 := if a < b then b else a
def zmin (a b : Int32) : Int32 := if b < a then b else a
def zcpk {β : Type} (i j : Nat) (sp dp n : Int32) (k : Option β) : Option β := if ¬ sp < 0 ∧ ¬ dp < 0 ∧ ¬ n < 0 ∧ sp.toNatClampNeg + n.toNatClampNeg ≤ zlen i ∧ dp.toNatClampNeg + n.toNatClampNeg ≤ zlen j then k else none
theorem zlet_ex {α β : Type} {e : α} {B : α → Option β} {r : Option β} (h : zlet e B = r) : ∃ y, y = e ∧ B y = r := ⟨e, rfl, h⟩
theorem zix_ex {β : Type} {i : Int32} {n : Nat} {k : Option β} {r : β} (h : zix i n k = some r) : vp_in i n ∧ k = some r := by
  unfold zix at h
  split at h
  · cases h
  · rename_i h1
    exact ⟨h1, h⟩
theorem znz_ex {β : Type} {b : Int32} {k : Option β} {r : β} (h : znz b k = some r) : ¬ b = 0 ∧ k = some r := by
  unfold znz at h
  split at h
  · cases h
  · rename_i h1
    exact ⟨h1, h⟩
theorem zbl_ex {β : Type} {b : Int32} {k : Option β} {r : β} (h : zbl b k = some r) : narrow .boolean (.int b) = .int b ∧ k = some r := by
  unfold zbl at h
  split at h
  · rename_i h1
    rcases h1 with rfl | rfl
    · exact ⟨rfl, h⟩
    · exact ⟨rfl, h⟩
  · cases h
theorem zbind_ex {α β : Type} {m : Option (α × zV)} {k : α → zV → Option β} {r : β} (h : zbind m k = some r) : ∃ a w, m = some (a, w) ∧ k a w = some r := by
  unfold zbind at h
  split at h
  · cases h
  · rename_i q
    exact ⟨q.1, q.2, rfl, h⟩
theorem zbindv_ex {β : Type} {m : Option zV} {k : zV → Option β} {r : β} (h : zbindv m k = some r) : ∃ w, m = some w ∧ k w = some r := by
  unfold zbindv at h
  split at h
  · cases h
  · rename_i q
    exact ⟨q, rfl, h⟩
theorem zcpk_ex {β : Type} {i j : Nat} {sp dp n : Int32} {k : Option β} {r : β} (h : zcpk i j sp dp n k = some r) : (¬ sp < 0 ∧ ¬ dp < 0 ∧ ¬ n < 0 ∧ sp.toNatClampNeg + n.toNatClampNeg ≤ zlen i ∧ dp.toNatClampNeg + n.toNatClampNeg ≤ zlen j) ∧ k = some r := by
  unfold zcpk at h
  split at h
  · rename_i h1
    exact ⟨h1, h⟩
  · cases h
theorem zif_t {c : Prop} [Decidable c] {β : Type} {A B : β} {r : β} (hc : c) (h : (if c then A else B) = r) : A = r := by rw [if_pos hc] at h; exact h
theorem zif_f {c : Prop} [Decidable c] {β : Type} {A B : β} {r : β} (hc : ¬ c) (h : (if c then A else B) = r) : B = r := by rw [if_neg hc] at h; exact h
theorem zin_lt {i : Int32} {n : Nat} (h : vp_in i n) : i.toNatClampNeg < n := Nat.not_le.mp fun q => h (Or.inr q)
theorem zsw_ne {a b : Int32} (h : ¬ a = b) : a.toInt ≠ b.toInt := fun q => h (Int32.toInt_inj.mp q)
section ZR2
variable {x : zCx} {G : zG} {cc : ByteArray} {nL : Nat} {own : String} {fr lo : Nat} {Q : State → Prop} {cs sl pc : Nat} {ls : List (Nat × Value)} {st : List Value} {v : zV}
theorem z_heap {v1 : zV} (e : v1 = v) (k : zJ x G nL Q cs sl pc ls st v1) : zJ x G nL Q cs sl pc ls st v := e ▸ k
theorem z_topi {y a : Int32} (e : y = a) (k : zJ x G nL Q cs sl pc ls (.int y :: st) v) : zJ x G nL Q cs sl pc ls (.int a :: st) v := e ▸ k
theorem z_topl {y a : Int64} (e : y = a) (k : zJ x G nL Q cs sl pc ls (.long y :: st) v) : zJ x G nL Q cs sl pc ls (.long a :: st) v := e ▸ k
theorem z_swIn (F : zF x G cc nL own fr lo) {dflt lo1 hi1 : Int} {offs : Array Int} {len : Nat} {a b : Int32} {off : Int} (tgt : Nat) (e : a = b) (hd : decode cc pc = .ok (.tableswitch dflt lo1 hi1 offs, len)) (h1 : ¬ b.toInt < lo1) (h2 : ¬ hi1 < b.toInt) (ho : offs[(b.toInt - lo1).toNat]? = some off) (ht : (pc : Int) + off = (tgt : Int)) (k : zJ x G nL Q cs sl tgt ls st v) : zJ x G nL Q cs sl pc ls (.int a :: st) v := by
  subst e
  exact z_tableIn F tgt hd h1 h2 ho ht k
theorem z_lkIn (F : zF x G cc nL own fr lo) {dflt : Int} {ps : Array (Int × Int)} {len : Nat} {a b : Int32} {off : Int} (tgt : Nat) (e : a = b) (hd : decode cc pc = .ok (.lookupswitch dflt ps, len)) (hp : (ps.toList.zip (ps.toList.drop 1)).all (fun (a, next) => a.1 < next.1) = true) (ho : Op.lookupswitch.offset ps.toList dflt b.toInt = off) (ht : (pc : Int) + off = (tgt : Int)) (k : zJ x G nL Q cs sl tgt ls st v) : zJ x G nL Q cs sl pc ls (.int a :: st) v := by
  subst e
  exact z_lookup F tgt hd hp ho ht k
theorem z_callVi (F : zF x G cc nL own fr lo) {y : MethodName} {cc' : ByteArray} {nL' fr' lo' mc ms n i c N idx : Nat} {T0 : u_T} {ret' : Option FieldType} {o : Int32} {v1 : zV} {C : String} (As rest : List Value) (hM : zMet x.2.1 y cc' nL' ret' fr' lo' mc ms (zr G i :: As) G v (some (.int o)) v1) (hI : zMI y cc' nL' ret' n) (hc : vwCl[c]? = some (C, T0, N)) (hT : zty G i 1 c)
    (hl1 : Cond.methodLink own idx y ∈ zTbl) (hl2 : Cond.instanceMethod y ∈ zTbl) (hl3 : Cond.selects C y y ∈ zTbl) (hd : decode cc pc = .ok (.invokevirtual idx, 3)) (hn : As.length = n) (hroom : fr' + 1 ≤ fr ∧ 8 + (nL' + 11) + lo' ≤ lo) (hst : st = As.reverse ++ zr G i :: rest) (hW : (rest.map fun q => q.category).sum ≤ 8) (hcs : cs + mc ≤ x.2.2.2.1.cells ∧ sl + ms ≤ x.2.2.2.1.slots) (k : zJ x G nL Q (cs + mc) (sl + ms) (pc + 3) ls (.int o :: rest) v1) : zJ x G nL Q cs sl pc ls st v :=
  z_callV F As rest hM hI hc hT hl1 hl2 hl3 hd hn hroom hst hW hcs k
theorem z_callVl (F : zF x G cc nL own fr lo) {y : MethodName} {cc' : ByteArray} {nL' fr' lo' mc ms n i c N idx : Nat} {T0 : u_T} {ret' : Option FieldType} {o : Int64} {v1 : zV} {C : String} (As rest : List Value) (hM : zMet x.2.1 y cc' nL' ret' fr' lo' mc ms (zr G i :: As) G v (some (.long o)) v1) (hI : zMI y cc' nL' ret' n) (hc : vwCl[c]? = some (C, T0, N)) (hT : zty G i 1 c)
    (hl1 : Cond.methodLink own idx y ∈ zTbl) (hl2 : Cond.instanceMethod y ∈ zTbl) (hl3 : Cond.selects C y y ∈ zTbl) (hd : decode cc pc = .ok (.invokevirtual idx, 3)) (hn : As.length = n) (hroom : fr' + 1 ≤ fr ∧ 8 + (nL' + 11) + lo' ≤ lo) (hst : st = As.reverse ++ zr G i :: rest) (hW : (rest.map fun q => q.category).sum ≤ 8) (hcs : cs + mc ≤ x.2.2.2.1.cells ∧ sl + ms ≤ x.2.2.2.1.slots) (k : zJ x G nL Q (cs + mc) (sl + ms) (pc + 3) ls (.long o :: rest) v1) : zJ x G nL Q cs sl pc ls st v :=
  z_callV F As rest hM hI hc hT hl1 hl2 hl3 hd hn hroom hst hW hcs k
theorem z_callVv (F : zF x G cc nL own fr lo) {y : MethodName} {cc' : ByteArray} {nL' fr' lo' mc ms n i c N idx : Nat} {T0 : u_T} {ret' : Option FieldType} {v1 : zV} {C : String} (As rest : List Value) (hM : zMet x.2.1 y cc' nL' ret' fr' lo' mc ms (zr G i :: As) G v none v1) (hI : zMI y cc' nL' ret' n) (hc : vwCl[c]? = some (C, T0, N)) (hT : zty G i 1 c)
    (hl1 : Cond.methodLink own idx y ∈ zTbl) (hl2 : Cond.instanceMethod y ∈ zTbl) (hl3 : Cond.selects C y y ∈ zTbl) (hd : decode cc pc = .ok (.invokevirtual idx, 3)) (hn : As.length = n) (hroom : fr' + 1 ≤ fr ∧ 8 + (nL' + 11) + lo' ≤ lo) (hst : st = As.reverse ++ zr G i :: rest) (hW : (rest.map fun q => q.category).sum ≤ 8) (hcs : cs + mc ≤ x.2.2.2.1.cells ∧ sl + ms ≤ x.2.2.2.1.slots) (k : zJ x G nL Q (cs + mc) (sl + ms) (pc + 3) ls rest v1) : zJ x G nL Q cs sl pc ls st v :=
  z_callV F As rest hM hI hc hT hl1 hl2 hl3 hd hn hroom hst hW hcs k
theorem z_callSi (F : zF x G cc nL own fr lo) {y : MethodName} {cc' : ByteArray} {nL' fr' lo' mc ms n idx : Nat} {ret' : Option FieldType} {o : Int32} {v1 : zV} (As rest : List Value) (hM : zMet x.2.1 y cc' nL' ret' fr' lo' mc ms As G v (some (.int o)) v1) (hI : zMI y cc' nL' ret' n)
    (hl1 : Cond.methodLink own idx y ∈ zTbl) (hl2 : Cond.static y ∈ zTbl) (hd : decode cc pc = .ok (.invokestatic idx, 3)) (hn : As.length = n) (hroom : fr' + 1 ≤ fr ∧ 8 + (nL' + 11) + lo' ≤ lo) (hst : st = As.reverse ++ rest) (hW : (rest.map fun q => q.category).sum ≤ 8) (hcs : cs + mc ≤ x.2.2.2.1.cells ∧ sl + ms ≤ x.2.2.2.1.slots) (k : zJ x G nL Q (cs + mc) (sl + ms) (pc + 3) ls (.int o :: rest) v1) : zJ x G nL Q cs sl pc ls st v :=
  z_callS F As rest hM hI hl1 hl2 hd hn hroom hst hW hcs k
theorem z_callSl (F : zF x G cc nL own fr lo) {y : MethodName} {cc' : ByteArray} {nL' fr' lo' mc ms n idx : Nat} {ret' : Option FieldType} {o : Int64} {v1 : zV} (As rest : List Value) (hM : zMet x.2.1 y cc' nL' ret' fr' lo' mc ms As G v (some (.long o)) v1) (hI : zMI y cc' nL' ret' n)
    (hl1 : Cond.methodLink own idx y ∈ zTbl) (hl2 : Cond.static y ∈ zTbl) (hd : decode cc pc = .ok (.invokestatic idx, 3)) (hn : As.length = n) (hroom : fr' + 1 ≤ fr ∧ 8 + (nL' + 11) + lo' ≤ lo) (hst : st = As.reverse ++ rest) (hW : (rest.map fun q => q.category).sum ≤ 8) (hcs : cs + mc ≤ x.2.2.2.1.cells ∧ sl + ms ≤ x.2.2.2.1.slots) (k : zJ x G nL Q (cs + mc) (sl + ms) (pc + 3) ls (.long o :: rest) v1) : zJ x G nL Q cs sl pc ls st v :=
  z_callS F As rest hM hI hl1 hl2 hd hn hroom hst hW hcs k
theorem z_callSv (F : zF x G cc nL own fr lo) {y : MethodName} {cc' : ByteArray} {nL' fr' lo' mc ms n idx : Nat} {ret' : Option FieldType} {v1 : zV} (As rest : List Value) (hM : zMet x.2.1 y cc' nL' ret' fr' lo' mc ms As G v none v1) (hI : zMI y cc' nL' ret' n)
    (hl1 : Cond.methodLink own idx y ∈ zTbl) (hl2 : Cond.static y ∈ zTbl) (hd : decode cc pc = .ok (.invokestatic idx, 3)) (hn : As.length = n) (hroom : fr' + 1 ≤ fr ∧ 8 + (nL' + 11) + lo' ≤ lo) (hst : st = As.reverse ++ rest) (hW : (rest.map fun q => q.category).sum ≤ 8) (hcs : cs + mc ≤ x.2.2.2.1.cells ∧ sl + ms ≤ x.2.2.2.1.slots) (k : zJ x G nL Q (cs + mc) (sl + ms) (pc + 3) ls rest v1) : zJ x G nL Q cs sl pc ls st v :=
  z_callS F As rest hM hI hl1 hl2 hd hn hroom hst hW hcs k
theorem z_callSNi (F : zF x G cc nL own fr lo) {y : MethodName} {cc' : ByteArray} {nL' fr' lo' mc ms n idx : Nat} {ret' : Option FieldType} {o : Int32} {v1 : zV} {host : String} (As rest : List Value) (hM : zMet x.2.1 y cc' nL' ret' fr' lo' mc ms As G v (some (.int o)) v1) (hI : zMI y cc' nL' ret' n)
    (hl1 : Cond.methodLinkNest own idx y host ∈ lw_tbl) (hl2 : Cond.static y ∈ zTbl) (hd : decode cc pc = .ok (.invokestatic idx, 3)) (hn : As.length = n) (hroom : fr' + 1 ≤ fr ∧ 8 + (nL' + 11) + lo' ≤ lo) (hst : st = As.reverse ++ rest) (hW : (rest.map fun q => q.category).sum ≤ 8) (hcs : cs + mc ≤ x.2.2.2.1.cells ∧ sl + ms ≤ x.2.2.2.1.slots) (k : zJ x G nL Q (cs + mc) (sl + ms) (pc + 3) ls (.int o :: rest) v1) : zJ x G nL Q cs sl pc ls st v :=
  z_callSN F As rest hM hI hl1 hl2 hd hn hroom hst hW hcs k
theorem z_callSNv (F : zF x G cc nL own fr lo) {y : MethodName} {cc' : ByteArray} {nL' fr' lo' mc ms n idx : Nat} {ret' : Option FieldType} {v1 : zV} {host : String} (As rest : List Value) (hM : zMet x.2.1 y cc' nL' ret' fr' lo' mc ms As G v none v1) (hI : zMI y cc' nL' ret' n)
    (hl1 : Cond.methodLinkNest own idx y host ∈ lw_tbl) (hl2 : Cond.static y ∈ zTbl) (hd : decode cc pc = .ok (.invokestatic idx, 3)) (hn : As.length = n) (hroom : fr' + 1 ≤ fr ∧ 8 + (nL' + 11) + lo' ≤ lo) (hst : st = As.reverse ++ rest) (hW : (rest.map fun q => q.category).sum ≤ 8) (hcs : cs + mc ≤ x.2.2.2.1.cells ∧ sl + ms ≤ x.2.2.2.1.slots) (k : zJ x G nL Q (cs + mc) (sl + ms) (pc + 3) ls rest v1) : zJ x G nL Q cs sl pc ls st v :=
  z_callSN F As rest hM hI hl1 hl2 hd hn hroom hst hW hcs k
end ZR2
section ZR3
variable {x : zCx} {G : zG} {cc : ByteArray} {nL : Nat} {own : String} {fr lo : Nat} {Q : State → Prop} {cs sl pc : Nat} {ls : List (Nat × Value)} {st : List Value} {v : zV}
theorem z_max (F : zF x G cc nL own fr lo) {idx : Nat} {a b : Int32} (hlink : Cond.methodLink own idx yJ9_max_7cf53 ∈ zTbl) (hd : decode cc pc = .ok (.invokestatic idx, 3)) (hfr : 1 ≤ fr) (hlo : 21 ≤ lo) (hW : (st.map fun q => q.category).sum ≤ 8) (hcs : cs ≤ x.2.2.2.1.cells ∧ sl ≤ x.2.2.2.1.slots) (k : zJ x G nL Q cs sl (pc + 3) ls (.int (zmax a b) :: st) v) : zJ x G nL Q cs sl pc ls (.int b :: .int a :: st) v :=
  fun H locs la hP hS hl => va_mmax F.1 F.2.1 (F.2.2.1.trans hl.1.symm) F.2.2.2.1 (F.2.2.2.2.1 _ hlink) (F.2.2.2.2.1 _ ms_J9_max_7cf53) (F.2.2.2.2.1 _ ini_RJ9) (F.2.2.2.2.1 _ kd_J9_max_7cf53) (Nat.le_trans hfr F.2.2.2.2.2.2.1) (Nat.le_trans (Nat.add_le_add_right hW 13) (Nat.le_trans hlo F.2.2.2.2.2.2.2.1)) hcs.1 hcs.2 hd (k H locs la hP hS hl)
theorem z_min (F : zF x G cc nL own fr lo) {idx : Nat} {a b : Int32} (hlink : Cond.methodLink own idx yJ9_min_7cf53 ∈ zTbl) (hd : decode cc pc = .ok (.invokestatic idx, 3)) (hfr : 1 ≤ fr) (hlo : 21 ≤ lo) (hW : (st.map fun q => q.category).sum ≤ 8) (hcs : cs ≤ x.2.2.2.1.cells ∧ sl ≤ x.2.2.2.1.slots) (k : zJ x G nL Q cs sl (pc + 3) ls (.int (zmin a b) :: st) v) : zJ x G nL Q cs sl pc ls (.int b :: .int a :: st) v :=
  fun H locs la hP hS hl => va_mmin F.1 F.2.1 (F.2.2.1.trans hl.1.symm) F.2.2.2.1 (F.2.2.2.2.1 _ hlink) (F.2.2.2.2.1 _ ms_J9_min_7cf53) (F.2.2.2.2.1 _ ini_RJ9) (F.2.2.2.2.1 _ kd_J9_min_7cf53) (Nat.le_trans hfr F.2.2.2.2.2.2.1) (Nat.le_trans (Nat.add_le_add_right hW 13) (Nat.le_trans hlo F.2.2.2.2.2.2.2.1)) hcs.1 hcs.2 hd (k H locs la hP hS hl)
theorem z_copy (F : zF x G cc nL own fr lo) {idx i j : Nat} {sp dp n : Int32} (hTi : zty G i 2 0) (hTj : zty G j 2 0) (hlink : Cond.methodLink own idx arraycopyName ∈ zTbl) (hd : decode cc pc = .ok (.invokestatic idx, 3)) (hc : ¬ sp < 0 ∧ ¬ dp < 0 ∧ ¬ n < 0 ∧ sp.toNatClampNeg + n.toNatClampNeg ≤ zlen i ∧ dp.toNatClampNeg + n.toNatClampNeg ≤ zlen j) (hfr : 1 ≤ fr) (hlo : 8 + (nativeFrameWords "java/lang/System" "arraycopy" 5 + 11) ≤ lo) (hW : (st.map fun q => q.category).sum ≤ 8)
    (k : zJ x G nL Q cs sl (pc + 3) ls st (zcp v i j sp.toNatClampNeg dp.toNatClampNeg n.toNatClampNeg)) : zJ x G nL Q cs sl pc ls (.int n :: .int dp :: zr G j :: .int sp :: zr G i :: st) v :=
  fun H locs la hP hS hl => va_copyi F.1 F.2.1 (F.2.2.1.trans hl.1.symm) F.2.2.2.1 (F.2.2.2.2.1 _ hlink) (F.2.2.2.2.1 _ zw_copy1) (F.2.2.2.2.1 _ zw_copy2) (F.2.2.2.2.1 _ zw_copy3) F.2.2.2.2.2.1 hP (zW_D G v) hS i j 0 0 (ty := .int) (zW_a hTi) (zW_a hTj) rfl rfl rfl hc.1 hc.2.1 hc.2.2.1 hc.2.2.2.1 hc.2.2.2.2 (fun _ _ => rfl) (Nat.le_trans hfr F.2.2.2.2.2.2.1) (Nat.le_trans (Nat.add_le_add_right hW _) (Nat.le_trans hlo F.2.2.2.2.2.2.2.1)) hd
    (fun H1 l1 hP1 _ hS1 => k H1 l1 la (by rw [zW_set G v (zcp v i j sp.toNatClampNeg dp.toNatClampNeg n.toNatClampNeg) j hTj.1.1 (zcp_ne _ _ _ _ _ _) (by rw [zE_a hTj, zcp_at]; rfl)] at hP1; exact hP1) hS1 hl)
end ZR3
