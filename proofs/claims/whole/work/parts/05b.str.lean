theorem dJ0_length_8abf5_0 : decode cJ0_length_8abf5 0 = .ok (.aload_n 0, 1) := by decide +kernel
theorem dJ0_length_8abf5_1 : decode cJ0_length_8abf5 1 = .ok (.getfield 9, 3) := by decide +kernel
theorem dJ0_length_8abf5_4 : decode cJ0_length_8abf5 4 = .ok (.arraylength, 1) := by decide +kernel
theorem dJ0_length_8abf5_5 : decode cJ0_length_8abf5 5 = .ok (.aload_n 0, 1) := by decide +kernel
theorem dJ0_length_8abf5_6 : decode cJ0_length_8abf5 6 = .ok (.invokevirtual 335, 3) := by decide +kernel
theorem dJ0_length_8abf5_9 : decode cJ0_length_8abf5 9 = .ok (.ishr, 1) := by decide +kernel
theorem dJ0_length_8abf5_10 : decode cJ0_length_8abf5 10 = .ok (.ireturn, 1) := by decide +kernel
theorem dJ0_charAt_5068e_0 : decode cJ0_charAt_5068e 0 = .ok (.aload_n 0, 1) := by decide +kernel
theorem dJ0_charAt_5068e_1 : decode cJ0_charAt_5068e 1 = .ok (.invokevirtual 492, 3) := by decide +kernel
theorem dJ0_charAt_5068e_4 : decode cJ0_charAt_5068e 4 = .ok (.ifCond .eq 12, 3) := by decide +kernel
theorem dJ0_charAt_5068e_7 : decode cJ0_charAt_5068e 7 = .ok (.aload_n 0, 1) := by decide +kernel
theorem dJ0_charAt_5068e_8 : decode cJ0_charAt_5068e 8 = .ok (.getfield 9, 3) := by decide +kernel
theorem dJ0_charAt_5068e_11 : decode cJ0_charAt_5068e 11 = .ok (.iload_n 1, 1) := by decide +kernel
theorem dJ0_charAt_5068e_12 : decode cJ0_charAt_5068e 12 = .ok (.invokestatic 495, 3) := by decide +kernel
theorem dJ0_charAt_5068e_15 : decode cJ0_charAt_5068e 15 = .ok (.ireturn, 1) := by decide +kernel
theorem dJ0_charAt_5068e_16 : decode cJ0_charAt_5068e 16 = .ok (.aload_n 0, 1) := by decide +kernel
theorem dJ0_charAt_5068e_17 : decode cJ0_charAt_5068e 17 = .ok (.getfield 9, 3) := by decide +kernel
theorem dJ0_charAt_5068e_20 : decode cJ0_charAt_5068e 20 = .ok (.iload_n 1, 1) := by decide +kernel
theorem dJ0_charAt_5068e_21 : decode cJ0_charAt_5068e 21 = .ok (.invokestatic 498, 3) := by decide +kernel
theorem dJ0_charAt_5068e_24 : decode cJ0_charAt_5068e 24 = .ok (.ireturn, 1) := by decide +kernel
theorem dJ0_coder_7d493_0 : decode cJ0_coder_7d493 0 = .ok (.getstatic 38, 3) := by decide +kernel
theorem dJ0_coder_7d493_3 : decode cJ0_coder_7d493 3 = .ok (.ifCond .eq 10, 3) := by decide +kernel
theorem dJ0_coder_7d493_6 : decode cJ0_coder_7d493 6 = .ok (.aload_n 0, 1) := by decide +kernel
theorem dJ0_coder_7d493_7 : decode cJ0_coder_7d493 7 = .ok (.getfield 15, 3) := by decide +kernel
theorem dJ0_coder_7d493_10 : decode cJ0_coder_7d493 10 = .ok (.goto 4, 3) := by decide +kernel
theorem dJ0_coder_7d493_13 : decode cJ0_coder_7d493 13 = .ok (.iconst 1, 1) := by decide +kernel
theorem dJ0_coder_7d493_14 : decode cJ0_coder_7d493 14 = .ok (.ireturn, 1) := by decide +kernel
theorem dJ0_isLatin1_aae02_0 : decode cJ0_isLatin1_aae02 0 = .ok (.getstatic 38, 3) := by decide +kernel
theorem dJ0_isLatin1_aae02_3 : decode cJ0_isLatin1_aae02 3 = .ok (.ifCond .eq 14, 3) := by decide +kernel
theorem dJ0_isLatin1_aae02_6 : decode cJ0_isLatin1_aae02 6 = .ok (.aload_n 0, 1) := by decide +kernel
theorem dJ0_isLatin1_aae02_7 : decode cJ0_isLatin1_aae02 7 = .ok (.getfield 15, 3) := by decide +kernel
theorem dJ0_isLatin1_aae02_10 : decode cJ0_isLatin1_aae02 10 = .ok (.ifCond .ne 7, 3) := by decide +kernel
theorem dJ0_isLatin1_aae02_13 : decode cJ0_isLatin1_aae02 13 = .ok (.iconst 1, 1) := by decide +kernel
theorem dJ0_isLatin1_aae02_14 : decode cJ0_isLatin1_aae02 14 = .ok (.goto 4, 3) := by decide +kernel
theorem dJ0_isLatin1_aae02_17 : decode cJ0_isLatin1_aae02 17 = .ok (.iconst 0, 1) := by decide +kernel
theorem dJ0_isLatin1_aae02_18 : decode cJ0_isLatin1_aae02 18 = .ok (.ireturn, 1) := by decide +kernel
theorem dJ0_checkIndex_df160_0 : decode cJ0_checkIndex_df160 0 = .ok (.iload_n 0, 1) := by decide +kernel
theorem dJ0_checkIndex_df160_1 : decode cJ0_checkIndex_df160 1 = .ok (.iload_n 1, 1) := by decide +kernel
theorem dJ0_checkIndex_df160_2 : decode cJ0_checkIndex_df160 2 = .ok (.getstatic 1053, 3) := by decide +kernel
theorem dJ0_checkIndex_df160_5 : decode cJ0_checkIndex_df160 5 = .ok (.invokestatic 1059, 3) := by decide +kernel
theorem dJ0_checkIndex_df160_8 : decode cJ0_checkIndex_df160 8 = .ok (.pop, 1) := by decide +kernel
theorem dJ0_checkIndex_df160_9 : decode cJ0_checkIndex_df160 9 = .ok (.return_, 1) := by decide +kernel
theorem dJ1_charAt_3b067_0 : decode cJ1_charAt_3b067 0 = .ok (.iload_n 1, 1) := by decide +kernel
theorem dJ1_charAt_3b067_1 : decode cJ1_charAt_3b067 1 = .ok (.aload_n 0, 1) := by decide +kernel
theorem dJ1_charAt_3b067_2 : decode cJ1_charAt_3b067 2 = .ok (.arraylength, 1) := by decide +kernel
theorem dJ1_charAt_3b067_3 : decode cJ1_charAt_3b067 3 = .ok (.invokestatic 9, 3) := by decide +kernel
theorem dJ1_charAt_3b067_6 : decode cJ1_charAt_3b067 6 = .ok (.aload_n 0, 1) := by decide +kernel
theorem dJ1_charAt_3b067_7 : decode cJ1_charAt_3b067 7 = .ok (.iload_n 1, 1) := by decide +kernel
theorem dJ1_charAt_3b067_8 : decode cJ1_charAt_3b067 8 = .ok (.baload, 1) := by decide +kernel
theorem dJ1_charAt_3b067_9 : decode cJ1_charAt_3b067 9 = .ok (.sipush 255, 3) := by decide +kernel
theorem dJ1_charAt_3b067_12 : decode cJ1_charAt_3b067 12 = .ok (.iand, 1) := by decide +kernel
theorem dJ1_charAt_3b067_13 : decode cJ1_charAt_3b067 13 = .ok (.i2c, 1) := by decide +kernel
theorem dJ1_charAt_3b067_14 : decode cJ1_charAt_3b067 14 = .ok (.ireturn, 1) := by decide +kernel
theorem dJ3_checkIndex_8e157_0 : decode cJ3_checkIndex_8e157 0 = .ok (.iload_n 0, 1) := by decide +kernel
theorem dJ3_checkIndex_8e157_1 : decode cJ3_checkIndex_8e157 1 = .ok (.ifCond .lt 8, 3) := by decide +kernel
theorem dJ3_checkIndex_8e157_4 : decode cJ3_checkIndex_8e157 4 = .ok (.iload_n 0, 1) := by decide +kernel
theorem dJ3_checkIndex_8e157_5 : decode cJ3_checkIndex_8e157 5 = .ok (.iload_n 1, 1) := by decide +kernel
theorem dJ3_checkIndex_8e157_6 : decode cJ3_checkIndex_8e157 6 = .ok (.if_icmp .lt 10, 3) := by decide +kernel
theorem dJ3_checkIndex_8e157_9 : decode cJ3_checkIndex_8e157 9 = .ok (.aload_n 2, 1) := by decide +kernel
theorem dJ3_checkIndex_8e157_10 : decode cJ3_checkIndex_8e157 10 = .ok (.iload_n 0, 1) := by decide +kernel
theorem dJ3_checkIndex_8e157_11 : decode cJ3_checkIndex_8e157 11 = .ok (.iload_n 1, 1) := by decide +kernel
theorem dJ3_checkIndex_8e157_12 : decode cJ3_checkIndex_8e157 12 = .ok (.invokestatic 95, 3) := by decide +kernel
theorem dJ3_checkIndex_8e157_15 : decode cJ3_checkIndex_8e157 15 = .ok (.athrow, 1) := by decide +kernel
theorem dJ3_checkIndex_8e157_16 : decode cJ3_checkIndex_8e157 16 = .ok (.iload_n 0, 1) := by decide +kernel
theorem dJ3_checkIndex_8e157_17 : decode cJ3_checkIndex_8e157 17 = .ok (.ireturn, 1) := by decide +kernel
def zsl (i : Nat) : Nat := zlenL.getD i 0
def zslen (i : Nat) : Int32 := Int32.ofNat (zlenL.getD i 0) >>> ((0 : Int32) &&& 31)
def zschar (i k : Nat) : Int32 := ((((zbytL.getD i []).getD k 0) &&& 255).toUInt32 % 65536).toInt32
abbrev zs (G : zG) (i : Nat) : Value := .ref (G.2.1 (100 + i))

theorem zl_cs : Cond.laysStatic "java/lang/String" "COMPACT_STRINGS" "Z" ∈ lw_tbl := zin_4 (List.mem_of_getElem? (i := 91) (by decide +kernel))
theorem zl_sf : Cond.laysStatic "jdk/internal/util/Preconditions" "SIOOBE_FORMATTER" "Ljava/util/function/BiFunction;" ∈ lw_tbl := zin_4 (List.mem_of_getElem? (i := 107) (by decide +kernel))
theorem zl_i0 : Cond.initialized "java/lang/String" ∈ lw_tbl := zin_1 (List.mem_of_getElem? (i := 17) (by decide +kernel))
theorem zl_i3 : Cond.initialized "jdk/internal/util/Preconditions" ∈ lw_tbl := zin_1 (List.mem_of_getElem? (i := 19) (by decide +kernel))
/-- what of the old heap a string method reads -/
def zStr (G : zG) (U : State) : Prop := vk_S 16 zlenL zbytL (fun i => G.2.1 (100 + i)) (fun i => G.2.1 (200 + i)) (zA G) U U.heap ∧ va_Z "java/lang/String" "COMPACT_STRINGS" "Z" (.int 1) (zA G) U U.heap ∧ va_Zq "jdk/internal/util/Preconditions" "SIOOBE_FORMATTER" "Ljava/util/function/BiFunction;" (zA G) U U.heap
theorem zStr_of {G : zG} {U : State} (h : zOld G U) : zStr G U := by
  obtain ⟨s0, a0, h1, h2, h3, h4, h5, h6⟩ := h
  have hs : ∀ w ∈ zPre, w.before a0 s0 = true := flat_of_before _ h2
  have hA : ∀ a : Nat, a < s0.heap.size → ¬ zA G a := fun a ha hq => by
    have : G.2.2 ≤ a := hq
    omega
  have hq : ∀ a : Nat, a < s0.heap.size → ¬ zA G a → U.heap[a]? = s0.heap[a]? := fun a ha _ => h5 a (by rw [← h3]; exact ha)
  obtain ⟨adK, adV, hS, hE⟩ := vk_Sof (A := zA G) (tm := ztm) (len := zlenL) (byt := zbytL) (N := 16) (args := a0) (s := s0) zq_len (fun i hi => hs _ (zq_ex i hi)) (fun i hi => hs _ (zq_co i hi)) (fun i hi => hs _ (zq_ar i hi)) (fun i hi => hs _ (zq_le i hi)) (fun i hi j hj => hs _ (zq_el i hi j hj)) (fun i j hi hj hij => (zq_ne i hi j hj hij).elim (fun h => Or.inl (hs _ h)) (fun h => Or.inr (hs _ h))) hA
  have hadK : ∀ i, i < 16 → adK i = G.2.1 (100 + i) := by
    intro i hi
    have e1 := hE i hi
    have e2 : (ztm i).eval a0 s0 none [] s0 = some (.ref (G.2.1 (100 + i))) := (h6 i hi).1
    rw [e1] at e2
    exact Value.ref.inj (Option.some.inj e2)
  have hadV : ∀ i, i < 16 → adV i = G.2.1 (200 + i) := by
    intro i hi
    have e2 : (ztm i).eval a0 s0 none [] s0 = some (.ref (G.2.1 (100 + i))) := (h6 i hi).1
    obtain ⟨cf, k, fi, f, cell, g1, g2, g3, g4, g5, g6⟩ := (hS.1 i hi).2.2.1
    obtain ⟨cf', k', fi', f', cell', g1', g2', g3', g4', g5', g6'⟩ := vk_OFof (A := zA G) e2 (h6 i hi).2 hA
    rw [hadK i hi] at g3
    cases g1.symm.trans g1'
    cases g3.symm.trans g3'
    have := g5.symm.trans g5'
    exact Value.ref.inj (Option.some.inj this)
  have hS2 : vk_S 16 zlenL zbytL (fun i => G.2.1 (100 + i)) (fun i => G.2.1 (200 + i)) (zA G) s0 s0.heap := by
    refine ⟨fun i hi => ?_, fun i j hi hj e => ?_⟩
    · have := hS.1 i hi
      rw [hadK i hi, hadV i hi] at this
      exact this
    · refine hS.2 i j hi hj ?_
      rw [hadK i hi, hadK j hj]
      exact e
  refine ⟨(hS2.moved h4.alike).kept hq, ?_, ?_⟩
  · have hv : (Term.static "java/lang/String" "COMPACT_STRINGS" "Z").eval a0 s0 none [] s0 = some (.int 1) := by
      have h := hs _ zq_cs
      exact va_eqi h
    exact ((va_Zof (h1 _ zl_cs) (h1 _ zl_i0) hv hA).moved h4.alike).kept hq
  · exact ((va_Zqof (h1 _ zl_sf) (h1 _ zl_i3) (hs _ zq_sf) hA).moved h4.alike).kept hq
section ZS
variable {x : zCx} {G : zG} {cc : ByteArray} {nL : Nat} {own : String} {fr lo : Nat} {Q : State → Prop} {cs sl pc : Nat} {ls : List (Nat × Value)} {st : List Value} {v : zV}
theorem z_ldcs (F : zF x G cc nL own fr lo) {tx : String} {idx : Nat} (i : Nat) (he : zSK.getD i ("", 0) = (own, idx)) (hi : i < 16) (hw : Cond.stringRef own idx tx ∈ lw_tbl) (hd : decode cc pc = .ok (.ldc idx, 2)) (k : zJ x G nL Q cs sl (pc + 2) ls (zs G i :: st) v) : zJ x G nL Q cs sl pc ls st v := by
  obtain ⟨s0, a0, h1, h2, h3, h4, h5, h6⟩ := F.2.2.2.2.2.2.2.2
  have e := (h6 i hi).1
  rw [he] at e
  have hR : vk_R own idx tx (G.2.1 (100 + i)) s0 := vk_R.of (h1 _ hw) e
  exact fun H locs la hP hS hl => va_ldcS F.1 F.2.1 F.2.2.2.1 (vk_R.warm h4 hR) hd (k H locs la hP hS hl)
theorem z_gets (F : zF x G cc nL own fr lo) {C n d : String} {w : Value} {idx : Nat} (hZ : va_Z C n d w (zA G) x.2.2.2.2.1 x.2.2.2.2.1.heap) (hlink : Cond.fieldLink own idx C n d ∈ zTbl) (hd : decode cc pc = .ok (.getstatic idx, 3)) (k : zJ x G nL Q cs sl (pc + 3) ls (w :: st) v) : zJ x G nL Q cs sl pc ls st v :=
  fun H locs la hP hS hl => va_gets F.1 F.2.1 hZ hS F.2.2.2.1 (F.2.2.2.2.1 _ hlink) (fun _ h => h) hd (k H locs la hP hS hl)
theorem z_getfs (F : zF x G cc nL own fr lo) {o n d : String} {w : Value} {idx q : Nat} (hE : va_OF o n d w q (zA G) x.2.2.2.2.1 x.2.2.2.2.1.heap) (hlink : Cond.fieldLink own idx o n d ∈ zTbl) (hd : decode cc pc = .ok (.getfield idx, 3)) (k : zJ x G nL Q cs sl (pc + 3) ls (w :: st) v) : zJ x G nL Q cs sl pc ls (.ref q :: st) v :=
  fun H locs la hP hS hl => vk_getf F.1 F.2.1 hE hS F.2.2.2.1 (F.2.2.2.2.1 _ hlink) (fun _ h => h) hd (k H locs la hP hS hl)
theorem z_tlen (F : zF x G cc nL own fr lo) {ty : FieldType} {t N : Nat} {f : Nat → Value} (hT : va_T ty t N f (zA G) x.2.2.2.2.1 x.2.2.2.2.1.heap) (hd : decode cc pc = .ok (.arraylength, 1)) (k : zJ x G nL Q cs sl (pc + 1) ls (.int (Int32.ofNat N) :: st) v) : zJ x G nL Q cs sl pc ls (.ref t :: st) v :=
  fun H locs la hP hS hl => va_tlen F.1 F.2.1 hT hS rfl hd (k H locs la hP hS hl)
theorem z_tb (F : zF x G cc nL own fr lo) {t N : Nat} {f : Nat → Value} {i : Int32} {w : Value} (hT : va_T .byte t N f (zA G) x.2.2.2.2.1 x.2.2.2.2.1.heap) (hin : vp_in i N) (hv : f i.toNatClampNeg = w) (hd : decode cc pc = .ok (.baload, 1)) (k : zJ x G nL Q cs sl (pc + 1) ls (w :: st) v) : zJ x G nL Q cs sl pc ls (.int i :: .ref t :: st) v :=
  fun H locs la hP hS hl => va_tb F.1 F.2.1 hT hS hin hv hd (k H locs la hP hS hl)
theorem z_retw (F : zF x G cc nL own fr lo) {y : Int32} {ty : FieldType} (hr : x.2.2.2.2.2.2.2.2.1.sig.returnType = some ty) (hlocks : x.2.2.2.2.2.2.2.2.1.locks = false) (hn : narrow ty (.int y) = .int y) (hd : decode cc pc = .ok (.ireturn, 1)) : zJ x G nL (zQ x G (some (.int y)) v cs sl) cs sl pc ls [.int y] v :=
  fun _ _ _ hP hS _ => W.zret F.1 F.2.1 hr hn (fun _ ht _ => ⟨⟨rfl, by rw [ht]; exact hP⟩, hS.F ht⟩) hS.2.2 hd hlocks
theorem z_i2c (F : zF x G cc nL own fr lo) {a : Int32} (hd : decode cc pc = .ok (.i2c, 1)) (k : zJ x G nL Q cs sl (pc + 1) ls (.int (a.toUInt32 % 65536).toInt32 :: st) v) : zJ x G nL Q cs sl pc ls (.int a :: st) v :=
  fun H locs la hP hS hl => lv_i2c F.1 F.2.1 hd rfl (k H locs la hP hS hl)
/-- a call of a string's method -/
theorem z_callT (F : zF x G cc nL own fr lo) {y : MethodName} {cc' : ByteArray} {nL' fr' lo' n i idx : Nat} {ret' : Option FieldType} {o : Int32} (As rest : List Value) (hi : i < 16) (hM : zMet x.2.1 y cc' nL' ret' fr' lo' 0 0 (zs G i :: As) G v (some (.int o)) v) (hI : zMI y cc' nL' ret' n)
    (hl1 : Cond.methodLink own idx y ∈ zTbl) (hl2 : Cond.instanceMethod y ∈ zTbl) (hl3 : Cond.selects "java/lang/String" y y ∈ zTbl) (hd : decode cc pc = .ok (.invokevirtual idx, 3)) (hn : As.length = n) (hroom : fr' + 1 ≤ fr ∧ 8 + (nL' + 11) + lo' ≤ lo) (hst : st = As.reverse ++ zs G i :: rest) (hW : (rest.map fun q => q.category).sum ≤ 8) (hcs : cs ≤ x.2.2.2.1.cells ∧ sl ≤ x.2.2.2.1.slots) (k : zJ x G nL Q cs sl (pc + 3) ls (.int o :: rest) v) : zJ x G nL Q cs sl pc ls st v := by
  obtain ⟨hE, -⟩ := zStr_of F.2.2.2.2.2.2.2.2
  refine z_ran (mc := 0) (ms := 0) (o := some (.int o)) (v1 := v) (av := zs G i :: As) (rest := rest) (st0 := st) (a := #[]) (fun H locs la hP hS hl => ?_) k
  have hrec := vk_recv hE hi hS
  have hpre := zMet_pre F hP hS (av := zs G i :: As)
  refine va_runV (C := "java/lang/String") (b := G.2.1 (100 + i)) (As := As) (rest := rest) ⟨F.1, F.2.1, F.2.2.1, F.2.2.2.1, F.2.2.2.2.1⟩ hM ⟨⟨rfl, rfl, Nat.le_trans hroom.1 F.2.2.2.2.2.2.1, Nat.le_trans hroom.2 F.2.2.2.2.2.2.2.1, pay_in F.2.2.2.2.1 (zGood hI.1), List.mem_cons_self, F.2.2.2.2.1 _ hI.1, F.2.2.2.2.1 _ hI.2.1, hI.2.2.1, fun sig h => ?_, F.2.2.2.2.1 _ hl1⟩, F.2.2.2.2.1 _ hl2, F.2.2.2.2.1 _ hl3⟩ ⟨hpre.1, hrec, hpre.2⟩ rfl hn hl.1 hst (lv_room hW) hd hcs
  have h2 := hI.2.2.2
  rw [h] at h2
  exact (Option.some.inj h2).symm
end ZS
set_option maxRecDepth 4000 in
theorem kJ_coder (l : Launch) (G : zG) (i : Nat) (hi : i < 16) (v : zV) : zMet l yJ0_coder_7d493 cJ0_coder_7d493 1 (some .byte) 1 80 0 0 [zs G i] G v (some (.int 0)) v := by
  refine zM_of (own := RJ0) (by decide) rfl (Nat.le_of_ble_eq_true rfl) (fun x hl F hr hk _ => ?_)
  subst hl
  obtain ⟨hE, hZ, -⟩ := zStr_of F.2.2.2.2.2.2.2.2
  refine z_ls [(0, zs G i)] [0] rfl ?_
  refine z_gets F hZ wF_J0_38 dJ0_coder_7d493_0 ?_
  refine z_if_eq F 13 dJ0_coder_7d493_3 rfl (fun hc => absurd hc (by decide)) (fun hc => ?_)
  refine z_aload_n F dJ0_coder_7d493_6 rfl 0 rfl ?_
  refine z_getfs F (hE.1 i hi).2.1 wF_J0_15 dJ0_coder_7d493_7 ?_
  refine z_goto F 14 dJ0_coder_7d493_10 rfl ?_
  exact z_retw F hr hk rfl dJ0_coder_7d493_14
set_option maxRecDepth 4000 in
theorem kJ_isLatin1 (l : Launch) (G : zG) (i : Nat) (hi : i < 16) (v : zV) : zMet l yJ0_isLatin1_aae02 cJ0_isLatin1_aae02 1 (some .boolean) 1 80 0 0 [zs G i] G v (some (.int 1)) v := by
  refine zM_of (own := RJ0) (by decide) rfl (Nat.le_of_ble_eq_true rfl) (fun x hl F hr hk _ => ?_)
  subst hl
  obtain ⟨hE, hZ, -⟩ := zStr_of F.2.2.2.2.2.2.2.2
  refine z_ls [(0, zs G i)] [0] rfl ?_
  refine z_gets F hZ wF_J0_38 dJ0_isLatin1_aae02_0 ?_
  refine z_if_eq F 17 dJ0_isLatin1_aae02_3 rfl (fun hc => absurd hc (by decide)) (fun hc => ?_)
  refine z_aload_n F dJ0_isLatin1_aae02_6 rfl 0 rfl ?_
  refine z_getfs F (hE.1 i hi).2.1 wF_J0_15 dJ0_isLatin1_aae02_7 ?_
  refine z_if_ne F 17 dJ0_isLatin1_aae02_10 rfl (fun hc => absurd rfl hc) (fun hc => ?_)
  refine z_iconst (y := (1 : Int32)) F dJ0_isLatin1_aae02_13 rfl ?_
  refine z_goto F 18 dJ0_isLatin1_aae02_14 rfl ?_
  exact z_retw F hr hk rfl dJ0_isLatin1_aae02_18
set_option maxRecDepth 4000 in
theorem kJ_length (l : Launch) (G : zG) (i : Nat) (hi : i < 16) (v : zV) : zMet l yJ0_length_8abf5 cJ0_length_8abf5 1 (some .int) 2 100 0 0 [zs G i] G v (some (.int (zslen i))) v := by
  refine zM_of (own := RJ0) (by decide) rfl (Nat.le_of_ble_eq_true rfl) (fun x hl F hr hk _ => ?_)
  subst hl
  obtain ⟨hE, hZ, -⟩ := zStr_of F.2.2.2.2.2.2.2.2
  refine z_ls [(0, zs G i)] [0] rfl ?_
  refine z_aload_n F dJ0_length_8abf5_0 rfl 0 rfl ?_
  refine z_getfs F (hE.1 i hi).2.2.1 wF_J0_9 dJ0_length_8abf5_1 ?_
  refine z_tlen F (hE.1 i hi).2.2.2 dJ0_length_8abf5_4 ?_
  refine z_aload_n F dJ0_length_8abf5_5 rfl 0 rfl ?_
  refine z_callT F [] [.int (Int32.ofNat (zlenL.getD i 0))] hi (kJ_coder x.2.1 G i hi v) mI_J0_coder_7d493 wM_J0_335 mi_J0_coder_7d493 sl_J0_coder_7d493 dJ0_length_8abf5_6 rfl ⟨Nat.le_of_ble_eq_true rfl, Nat.le_of_ble_eq_true rfl⟩ rfl (Nat.le_of_ble_eq_true rfl) ⟨Nat.zero_le _, Nat.zero_le _⟩ ?_
  refine z_ishr F dJ0_length_8abf5_9 ?_
  exact z_reti F hr hk dJ0_length_8abf5_10
set_option maxRecDepth 4000 in
theorem kJ_pre (l : Launch) (G : zG) (a b : Int32) (c : Value) (h0 : ¬ a < 0) (h1 : a < b) (hc : c = .null ∨ ∃ t, c = .ref t) (v : zV) : zMet l yJ3_checkIndex_8e157 cJ3_checkIndex_8e157 3 (some .int) 1 80 0 0 [.int a, .int b, c] G v (some (.int a)) v := by
  have hl0 : lv_args 0 [.int a, .int b, c] = [(0, .int a), (1, .int b), (2, c)] := rfl
  have hav : (lg_sl [.int a, .int b, c]).length ≤ 3 := by rcases hc with rfl | ⟨t, rfl⟩ <;> exact Nat.le_refl _
  refine zM_of (own := RJ3) (by decide) rfl hav (fun x hl F hr hk _ => ?_)
  subst hl
  rw [hl0]
  refine z_iload_n F dJ3_checkIndex_8e157_0 rfl 0 rfl ?_
  refine z_if_lt F 9 dJ3_checkIndex_8e157_1 rfl (fun hc => absurd hc h0) (fun _ => ?_)
  refine z_iload_n F dJ3_checkIndex_8e157_4 rfl 0 rfl ?_
  refine z_iload_n F dJ3_checkIndex_8e157_5 rfl 1 rfl ?_
  refine z_icmp_lt F 16 dJ3_checkIndex_8e157_6 rfl (fun _ => ?_) (fun hc => absurd h1 hc)
  refine z_iload_n F dJ3_checkIndex_8e157_16 rfl 0 rfl ?_
  exact z_reti F hr hk dJ3_checkIndex_8e157_17
set_option maxRecDepth 4000 in
theorem kJ_chk (l : Launch) (G : zG) (a b : Int32) (h0 : ¬ a < 0) (h1 : a < b) (v : zV) : zMet l yJ0_checkIndex_df160 cJ0_checkIndex_df160 2 none 2 103 0 0 [.int a, .int b] G v none v := by
  refine zM_of (own := RJ0) (by decide) rfl (Nat.le_of_ble_eq_true rfl) (fun x hl F hr hk _ => ?_)
  subst hl
  obtain ⟨-, -, hq⟩ := zStr_of F.2.2.2.2.2.2.2.2
  refine z_ls [(0, .int a), (1, .int b)] [0, 1] rfl ?_
  refine z_iload_n F dJ0_checkIndex_df160_0 rfl 0 rfl ?_
  refine z_iload_n F dJ0_checkIndex_df160_1 rfl 1 rfl ?_
  rcases hq with hZ | ⟨t, hZ⟩
  · refine z_gets F hZ wF_J0_1053 dJ0_checkIndex_df160_2 ?_
    refine z_callSi F [.int a, .int b, .null] [] (kJ_pre x.2.1 G a b .null h0 h1 (Or.inl rfl) v) mI_J3_checkIndex_8e157 wM_J0_1059 ms_J3_checkIndex_8e157 dJ0_checkIndex_df160_5 rfl ⟨Nat.le_of_ble_eq_true rfl, Nat.le_of_ble_eq_true rfl⟩ rfl (Nat.le_of_ble_eq_true rfl) ⟨Nat.zero_le _, Nat.zero_le _⟩ ?_
    refine z_pop F dJ0_checkIndex_df160_8 rfl ?_
    exact z_retv F hr hk dJ0_checkIndex_df160_9
  · refine z_gets F hZ wF_J0_1053 dJ0_checkIndex_df160_2 ?_
    refine z_callSi F [.int a, .int b, .ref t] [] (kJ_pre x.2.1 G a b (.ref t) h0 h1 (Or.inr ⟨t, rfl⟩) v) mI_J3_checkIndex_8e157 wM_J0_1059 ms_J3_checkIndex_8e157 dJ0_checkIndex_df160_5 rfl ⟨Nat.le_of_ble_eq_true rfl, Nat.le_of_ble_eq_true rfl⟩ rfl (Nat.le_of_ble_eq_true rfl) ⟨Nat.zero_le _, Nat.zero_le _⟩ ?_
    refine z_pop F dJ0_checkIndex_df160_8 rfl ?_
    exact z_retv F hr hk dJ0_checkIndex_df160_9
theorem zin_pos {a : Int32} {N : Nat} (h : vp_in a N) (hN : N < 2 ^ 31) : ¬ a < 0 ∧ a < Int32.ofNat N := by
  obtain ⟨j, hj, rfl⟩ := vp_in_of h hN
  exact ⟨nI_pos (by omega), nI_lt hj hN⟩
set_option maxRecDepth 4000 in
theorem kJ_charL (l : Launch) (G : zG) (i : Nat) (hi : i < 16) (a : Int32) (ha : vp_in a (zsl i)) (v : zV) : zMet l yJ1_charAt_3b067 cJ1_charAt_3b067 2 (some .char) 3 140 0 0 [.ref (G.2.1 (200 + i)), .int a] G v (some (.int (zschar i a.toNatClampNeg))) v := by
  refine zM_of (own := RJ1) (by decide) rfl (Nat.le_of_ble_eq_true rfl) (fun x hl F hr hk _ => ?_)
  subst hl
  obtain ⟨hE, -, -⟩ := zStr_of F.2.2.2.2.2.2.2.2
  have hp := zin_pos ha (zq_len i hi)
  refine z_ls [(0, .ref (G.2.1 (200 + i))), (1, .int a)] [0, 1] rfl ?_
  refine z_iload_n F dJ1_charAt_3b067_0 rfl 1 rfl ?_
  refine z_aload_n F dJ1_charAt_3b067_1 rfl 0 rfl ?_
  refine z_tlen F (hE.1 i hi).2.2.2 dJ1_charAt_3b067_2 ?_
  refine z_callSv F [.int a, .int (Int32.ofNat (zlenL.getD i 0))] [] (kJ_chk x.2.1 G a _ hp.1 hp.2 v) mI_J0_checkIndex_df160 wM_J1_9 ms_J0_checkIndex_df160 dJ1_charAt_3b067_3 rfl ⟨Nat.le_of_ble_eq_true rfl, Nat.le_of_ble_eq_true rfl⟩ rfl (Nat.le_of_ble_eq_true rfl) ⟨Nat.zero_le _, Nat.zero_le _⟩ ?_
  refine z_aload_n F dJ1_charAt_3b067_6 rfl 0 rfl ?_
  refine z_iload_n F dJ1_charAt_3b067_7 rfl 1 rfl ?_
  refine z_tb F (hE.1 i hi).2.2.2 ha rfl dJ1_charAt_3b067_8 ?_
  refine z_sipush (y := (255 : Int32)) F dJ1_charAt_3b067_9 rfl ?_
  refine z_iand F dJ1_charAt_3b067_12 ?_
  refine z_i2c F dJ1_charAt_3b067_13 ?_
  exact z_retw F hr hk (pk_nc _) dJ1_charAt_3b067_14
set_option maxRecDepth 4000 in
theorem kJ_charAt (l : Launch) (G : zG) (i : Nat) (hi : i < 16) (a : Int32) (ha : vp_in a (zsl i)) (v : zV) : zMet l yJ0_charAt_5068e cJ0_charAt_5068e 2 (some .char) 4 180 0 0 [zs G i, .int a] G v (some (.int (zschar i a.toNatClampNeg))) v := by
  refine zM_of (own := RJ0) (by decide) rfl (Nat.le_of_ble_eq_true rfl) (fun x hl F hr hk _ => ?_)
  subst hl
  obtain ⟨hE, -, -⟩ := zStr_of F.2.2.2.2.2.2.2.2
  refine z_ls [(0, zs G i), (1, .int a)] [0, 1] rfl ?_
  refine z_aload_n F dJ0_charAt_5068e_0 rfl 0 rfl ?_
  refine z_callT F [] [] hi (kJ_isLatin1 x.2.1 G i hi v) mI_J0_isLatin1_aae02 wM_J0_492 mi_J0_isLatin1_aae02 sl_J0_isLatin1_aae02 dJ0_charAt_5068e_1 rfl ⟨Nat.le_of_ble_eq_true rfl, Nat.le_of_ble_eq_true rfl⟩ rfl (Nat.le_of_ble_eq_true rfl) ⟨Nat.zero_le _, Nat.zero_le _⟩ ?_
  refine z_if_eq F 16 dJ0_charAt_5068e_4 rfl (fun hc => absurd hc (by decide)) (fun _ => ?_)
  refine z_aload_n F dJ0_charAt_5068e_7 rfl 0 rfl ?_
  refine z_getfs F (hE.1 i hi).2.2.1 wF_J0_9 dJ0_charAt_5068e_8 ?_
  refine z_iload_n F dJ0_charAt_5068e_11 rfl 1 rfl ?_
  refine z_callSi F [.ref (G.2.1 (200 + i)), .int a] [] (kJ_charL x.2.1 G i hi a ha v) mI_J1_charAt_3b067 wM_J0_495 ms_J1_charAt_3b067 dJ0_charAt_5068e_12 rfl ⟨Nat.le_of_ble_eq_true rfl, Nat.le_of_ble_eq_true rfl⟩ rfl (Nat.le_of_ble_eq_true rfl) ⟨Nat.zero_le _, Nat.zero_le _⟩ ?_
  exact z_retw F hr hk (pk_nc _) dJ0_charAt_5068e_15
section ZS2
variable {x : zCx} {G : zG} {cc : ByteArray} {nL : Nat} {own : String} {fr lo : Nat} {Q : State → Prop} {cs sl pc : Nat} {ls : List (Nat × Value)} {v : zV}
theorem z_slen (F : zF x G cc nL own fr lo) {i idx : Nat} (hi : i < 16) (hl : Cond.methodLink own idx yJ0_length_8abf5 ∈ zTbl) (rest : List Value) (hd : decode cc pc = .ok (.invokevirtual idx, 3)) (hfr : 3 ≤ fr) (hlo : 120 ≤ lo) (hW : (rest.map fun q => q.category).sum ≤ 8) (hcs : cs ≤ x.2.2.2.1.cells ∧ sl ≤ x.2.2.2.1.slots) (k : zJ x G nL Q cs sl (pc + 3) ls (.int (zslen i) :: rest) v) : zJ x G nL Q cs sl pc ls (zs G i :: rest) v :=
  z_callT F [] rest hi (kJ_length x.2.1 G i hi v) mI_J0_length_8abf5 hl mi_J0_length_8abf5 sl_J0_length_8abf5 hd rfl ⟨hfr, hlo⟩ rfl hW hcs k
theorem z_schar (F : zF x G cc nL own fr lo) {i idx : Nat} {a : Int32} (hi : i < 16) (ha : vp_in a (zsl i)) (hl : Cond.methodLink own idx yJ0_charAt_5068e ∈ zTbl) (rest : List Value) (hd : decode cc pc = .ok (.invokevirtual idx, 3)) (hfr : 5 ≤ fr) (hlo : 201 ≤ lo) (hW : (rest.map fun q => q.category).sum ≤ 8) (hcs : cs ≤ x.2.2.2.1.cells ∧ sl ≤ x.2.2.2.1.slots) (k : zJ x G nL Q cs sl (pc + 3) ls (.int (zschar i a.toNatClampNeg) :: rest) v) : zJ x G nL Q cs sl pc ls (.int a :: zs G i :: rest) v :=
  z_callT F [.int a] rest hi (kJ_charAt x.2.1 G i hi a ha v) mI_J0_charAt_5068e hl mi_J0_charAt_5068e sl_J0_charAt_5068e hd rfl ⟨hfr, hlo⟩ rfl hW hcs k
end ZS2

