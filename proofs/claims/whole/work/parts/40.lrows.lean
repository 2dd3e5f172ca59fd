
section ZL
variable {x : zCx} {G : zG} {cc : ByteArray} {nL : Nat} {own : String} {fr lo : Nat} {Q : State → Prop} {cs sl pc : Nat} {ls : List (Nat × Value)} {st : List Value} {v : zV}
theorem z_sld (F : zF x G cc nL own fr lo) {b L t : Nat} {xs : Nat → Int32} {i : Int32} (hX : va_X b L xs x.2.2.2.2.1 x.2.2.2.2.1.heap) (hbl : b < x.2.2.2.2.1.heap.size) (hbA : ¬ zA G b) (e : i = nI t) (ht : t < L) (hL : L < 2 ^ 31) (hd : decode cc pc = .ok (.iaload, 1)) (k : zJ x G nL Q cs sl (pc + 1) ls (.int (xs t) :: st) v) : zJ x G nL Q cs sl pc ls (.int i :: .ref b :: st) v := by
  subst e
  intro H locs la hP hS hl
  have h := k H locs la hP hS hl
  rw [show xs t = xs (nI t).toNatClampNeg by rw [nI_clamp (by omega)]] at h
  exact va_sld F.1 F.2.1 hX hbl hbA hS (vp_in_nI ht hL) hd h
theorem z_slen0 (F : zF x G cc nL own fr lo) {b L : Nat} {xs : Nat → Int32} (hX : va_X b L xs x.2.2.2.2.1 x.2.2.2.2.1.heap) (hbl : b < x.2.2.2.2.1.heap.size) (hbA : ¬ zA G b) (hd : decode cc pc = .ok (.arraylength, 1)) (k : zJ x G nL Q cs sl (pc + 1) ls (.int (nI L) :: st) v) : zJ x G nL Q cs sl pc ls (.ref b :: st) v :=
  fun H locs la hP hS hl => va_slen F.1 F.2.1 hX hbl hbA hS hd (k H locs la hP hS hl)
theorem z_callSW (F : zF x G cc nL own fr lo) {y : MethodName} {cc' : ByteArray} {nL' fr' lo' mc ms n idx : Nat} {ret' : Option FieldType} {hh : List (Nat × Nat × Nat × Nat)} {o : Int32} {v1 : zV} (As rest : List Value) (hM : zMetW x.2.1 y cc' nL' ret' hh fr' lo' mc ms As G v (some (.int o)) v1) (hcode : Cond.codeWith y cc' nL' ret' hh ∈ zTbl)
    (hl1 : Cond.methodLink own idx y ∈ zTbl) (hl2 : Cond.static y ∈ zTbl) (hd : decode cc pc = .ok (.invokestatic idx, 3)) (hn : As.length = n) (hy : (y.cls == "ContraryChairsLaw" && decide ((parseMethodDescriptor y.desc).map (fun d => d.parameters.length) = some n)) = true) (hroom : fr' + 1 ≤ fr ∧ 8 + (nL' + 11) + lo' ≤ lo) (hst : st = As.reverse ++ rest) (hW : (rest.map fun q => q.category).sum ≤ 8) (hcs : cs + mc ≤ x.2.2.2.1.cells ∧ sl + ms ≤ x.2.2.2.1.slots) (k : zJ x G nL Q (cs + mc) (sl + ms) (pc + 3) ls (.int o :: rest) v1) : zJ x G nL Q cs sl pc ls st v := by
  simp only [Bool.and_eq_true, beq_iff_eq, decide_eq_true_eq] at hy
  refine z_ran (o := some (.int o)) (av := As) (rest := rest) (st0 := st) (a := #[]) (fun H locs la hP hS hl => ?_) k
  refine vx_runSW (hh := hh) (As := As) (rest := rest) ⟨F.1, F.2.1, F.2.2.1, F.2.2.2.1, F.2.2.2.2.1⟩ hM ⟨⟨rfl, rfl, Nat.le_trans hroom.1 F.2.2.2.2.2.2.1, Nat.le_trans hroom.2 F.2.2.2.2.2.2.2.1, pay_in F.2.2.2.2.1 (zGood hcode), List.mem_cons_self⟩, F.2.2.2.2.1 _ hcode, ?_, ?_, fun sig h => ?_, F.2.2.2.2.1 _ hl1, F.2.2.2.2.1 _ hl2⟩ (zMet_pre F hP hS) rfl hn hl.1 hst (lv_room hW) hd hcs
  · rw [hy.1]; exact F.2.2.2.2.1 _ ini_RL
  · rw [hy.1]; exact ⟨by decide, by decide⟩
  · have h2 := hy.2
    rw [h] at h2
    exact (Option.some.inj h2).symm
end ZL
