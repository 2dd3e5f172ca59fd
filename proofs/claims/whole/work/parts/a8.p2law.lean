/-! THE LAW, from its entry -/
section
theorem dL_law__0 : decode cL_law_ 0 = .ok (.new 8, 3) := by decide +kernel
theorem dL_law__3 : decode cL_law_ 3 = .ok (.dup, 1) := by decide +kernel
theorem dL_law__4 : decode cL_law_ 4 = .ok (.invokespecial 129, 3) := by decide +kernel
theorem dL_law__7 : decode cL_law_ 7 = .ok (.astore_n 1, 1) := by decide +kernel
theorem dL_law__8 : decode cL_law_ 8 = .ok (.new 130, 3) := by decide +kernel
theorem dL_law__11 : decode cL_law_ 11 = .ok (.dup, 1) := by decide +kernel
theorem dL_law__12 : decode cL_law_ 12 = .ok (.invokespecial 132, 3) := by decide +kernel
theorem dL_law__15 : decode cL_law_ 15 = .ok (.astore_n 2, 1) := by decide +kernel
theorem dL_law__16 : decode cL_law_ 16 = .ok (.iconst 1, 1) := by decide +kernel
theorem dL_law__17 : decode cL_law_ 17 = .ok (.newarray .long, 2) := by decide +kernel
theorem dL_law__19 : decode cL_law_ 19 = .ok (.astore_n 3, 1) := by decide +kernel
theorem zsh_low : ∀ i, i < 604 → (zsh i).1 = 1 ∨ (zsh i).2.1 < 5 := by decide +kernel
theorem zE_G {D : va_G} {g : Nat → Nat × Nat} {c : Nat → ClassId} {h N N' : Nat} (f : Nat → Int32) {i : Nat} (hi : i < 604) : zE (zGo D g c h N) f i = zE (zGo D g c h N') f i := by
  have hl := zsh_low i hi
  unfold zE
  by_cases e : (zsh i).1 = 1
  · rw [if_pos e, if_pos e]
    rfl
  · rw [if_neg e, if_neg e]
    have hl : (zsh i).2.1 < 5 := hl.resolve_left e
    generalize (zsh i).2.1 = k at hl
    match k, hl with
    | 0, _ => rfl
    | 1, _ => rfl
    | 2, _ => rfl
    | 3, _ => rfl
    | 4, _ => rfl
    | k + 5, hq => omega
theorem zB_E {x : zCx} {G : zG} {nL : Nat} {Q : State → Prop} {cs sl pc n : Nat} {ls : List (Nat × Value)} {st : List Value} {ce ce' : Nat → va_E} (h : ∀ i, i < n → zEq (ce i) (ce' i)) (k : zB x G nL Q cs sl pc ls st n ce') : zB x G nL Q cs sl pc ls st n ce :=
  fun H locs la hP hS hl hn => k H locs la (zEq_P h hP) hS hl hn
set_option maxRecDepth 20000 in
set_option maxHeartbeats 4000000 in
theorem whole_start {p : Program} {e : Env} {s : State} {m : MethodId} {below : List Frame} {meth : Method} {c : Code} (l : Launch) (hflags : l.flags = flags0) {b L : Nat} {xs : Nat → Int32} (hL : L ≤ 3584) (C0 : lw_At p s m meth c b L xs) : W p l e room_1 s m #[Value.ref b] below meth c s.heap [] 0 0 (lw_Z below #[Value.ref b] s) (entryFrame m ([Value.ref b] : List Value).toArray 7) := by
  obtain ⟨hx, hb, hr, hml, hown, hts, hX, hbl, hlocks, hgv⟩ := id C0
  obtain ⟨D, g, ci, hG⟩ := z_start hts hgv
  obtain ⟨v1, w, h1, h2, hI, h603⟩ := sInv_0
  obtain ⟨hK3, hO3⟩ := hG 603
  obtain ⟨hK4, hO4⟩ := hG 604
  have ht : ∀ w ∈ zTbl, w.before #[Value.ref b] s = true := fun w hw => hts w (List.mem_filter.mp hw).1
  obtain ⟨x, ex⟩ : ∃ x : zCx, x = (p, l, e, room_1, s, m, #[Value.ref b], below, meth, c) := ⟨_, rfl⟩
  have F3 : zF x (zGo D g ci s.heap.size 603) cL_law_ 7 RL 2048 84000 := by
    rw [ex]
    exact ⟨hx, hb, hml, hown, ht, hK3, Nat.le_refl _, Nat.le_refl _, hO3⟩
  have F4 : zF x (zGo D g ci s.heap.size 604) cL_law_ 7 RL 2048 84000 := by
    rw [ex]
    exact ⟨hx, hb, hml, hown, ht, hK4, Nat.le_refl _, Nat.le_refl _, hO4⟩
  have hrm : x.2.2.2.1 = room_1 := by rw [ex]
  have hcs : 100000 ≤ x.2.2.2.1.cells ∧ 1000000 ≤ x.2.2.2.1.slots := by
    rw [hrm]
    exact ⟨by show 100000 ≤ 601024; omega, by show 1000000 ≤ 7293034; omega⟩
  have hN3 : zN (zGo D g ci s.heap.size 603) = 603 := rfl
  have hN4 : zN (zGo D g ci s.heap.size 604) = 604 := rfl
  have t3 : zty (zGo D g ci s.heap.size 603) 116 1 10 := ⟨⟨by rw [hN3]; omega, by rw [hN3]; omega, by rw [hN3]; omega⟩, by decide +kernel, by decide +kernel⟩
  have t40 : zty (zGo D g ci s.heap.size 604) 0 1 9 := ⟨⟨by rw [hN4]; omega, by rw [hN4]; omega, by rw [hN4]; omega⟩, by decide +kernel, by decide +kernel⟩
  have t41 : zty (zGo D g ci s.heap.size 604) 116 1 10 := ⟨⟨by rw [hN4]; omega, by rw [hN4]; omega, by rw [hN4]; omega⟩, by decide +kernel, by decide +kernel⟩
  have t42 : zty (zGo D g ci s.heap.size 604) 603 2 2 := ⟨⟨by rw [hN4]; omega, by rw [hN4]; omega, by rw [hN4]; omega⟩, by decide +kernel, by decide +kernel⟩
  have J : zJ x (zGo D g ci s.heap.size 604) 7 (lw_Z x.2.2.2.2.2.2.2.1 #[Value.ref b] x.2.2.2.2.1) 604 9313 23 [(0, .ref b), (1, zr (zGo D g ci s.heap.size 604) 0), (2, zr (zGo D g ci s.heap.size 604) 116), (3, zr (zGo D g ci s.heap.size 604) 603), (4, .int (nI 0))] [] w := by
    refine zlaw_loop (xs := xs) F4 ⟨by omega, by omega⟩ ?_ ?_ ?_ ?_ t40 t41 t42 hL ?_ hrm ?_ ?_ ?_ sInv (fun v k p1 p2 p3 p4 p5 p6 hv => fL_keeps hv (k &&& 63) p1 p2 p3 p4 p5 p6) 513 0 w 604 9313 hI (by omega) (by omega) (by omega) (by omega)
    · rw [ex]
      show (!l.flags.contains _) = false
      rw [hflags]
      rfl
    · rw [ex]; exact hX
    · rw [ex]; exact hbl
    · exact Nat.not_le.mpr hbl
    · rw [ex]
    · rw [ex]; exact hr
    · rw [ex]; exact hlocks
    · rw [ex]; exact Nat.le_refl _
  have K : zB x (zGo D g ci s.heap.size 603) 7 (lw_Z x.2.2.2.2.2.2.2.1 #[Value.ref b] x.2.2.2.2.1) 0 0 0 [(0, .ref b)] [] 0 (zCe (zGo D g ci s.heap.size 603)) := by
    generalize hGG : zGo D g ci s.heap.size 603 = G at F3 hN3 t3
    generalize hQQ : lw_Z x.2.2.2.2.2.2.2.1 #[Value.ref b] x.2.2.2.2.1 = QQ at J
    refine b_new F3 (c := 9) (C := RX9) (T := TX9) (N := 17) (fs := [.null, .null, .null, .null, .null, .null, .null, .null, .null, .null, .int 0, .null, .null, .null, .null, .int 0, .int 0]) tyX9 tyX9_ok rfl uw_9 zcl_L_8 zin_RX9 ini_RX9 (by decide +kernel) ⟨Nat.le_trans (Nat.le_of_ble_eq_true rfl) hcs.1, Nat.le_trans (Nat.le_of_ble_eq_true rfl) hcs.2⟩ dL_law__0 ?_
    refine b_dup F3 dL_law__3 rfl ?_
    refine b_callI F3 [] [zr G 0] (n' := 116) (kBX9_init_0 x.2.1 G _ rfl) mI_X9_init rfl wM_L_129 mi_X9_init rfl dL_law__4 rfl ⟨Nat.le_of_ble_eq_true rfl, Nat.le_of_ble_eq_true rfl⟩ rfl (Nat.le_of_ble_eq_true rfl) ⟨Nat.le_trans (Nat.le_of_ble_eq_true rfl) hcs.1, Nat.le_trans (Nat.le_of_ble_eq_true rfl) hcs.2⟩ ?_
    refine b_astore_n F3 [(1, zr G 0), (0, .ref b)] dL_law__7 rfl (Nat.le_of_ble_eq_true rfl) rfl ?_
    refine zB_E (ce' := zC0 G) (zC9_all G) ?_
    refine b_new F3 (c := 10) (C := RX10) (T := TX10) (N := 60) (fs := [.int 0, .int 0, .int 0, .int 0, .int 0, .int 0, .int 0, .int 0, .int 0, .null, .null, .null, .null, .null, .null, .null, .null, .null, .null, .null, .null, .null, .null, .null, .null, .int 0, .int 0, .int 0, .null, .null, .null, .null, .null, .null, .null, .null, .null, .null, .null, .null, .int 0, .int 0, .int 0, .null, .int 0, .int 0, .int 0, .int 0, .int 0, .null, .int 0, .null, .int 0, .int 0, .null, .null, .null, .int 0, .int 0, .null]) tyX10 tyX10_ok rfl uw_10 zcl_L_130 zin_RX10 ini_RX10 (by decide +kernel) ⟨Nat.le_trans (Nat.le_of_ble_eq_true rfl) hcs.1, Nat.le_trans (Nat.le_of_ble_eq_true rfl) hcs.2⟩ dL_law__8 ?_
    refine b_dup F3 dL_law__11 rfl ?_
    have hk10 := kBX10_init x.2.1 G hN3 t3 v1 w h1 h2
    rw [hN3] at hk10
    refine b_callI F3 [] [zr G 116] (n' := 603) hk10 mI_X10_init rfl wM_L_132 mi_X10_init rfl dL_law__12 rfl ⟨Nat.le_of_ble_eq_true rfl, Nat.le_of_ble_eq_true rfl⟩ rfl (Nat.le_of_ble_eq_true rfl) ⟨Nat.le_trans (Nat.le_of_ble_eq_true rfl) hcs.1, Nat.le_trans (Nat.le_of_ble_eq_true rfl) hcs.2⟩ ?_
    refine b_astore_n F3 [(2, zr G 116), (1, zr G 0), (0, .ref b)] dL_law__15 rfl (Nat.le_of_ble_eq_true rfl) rfl ?_
    refine b_iconst (y := (1 : Int32)) F3 dL_law__16 rfl ?_
    refine b_newa F3 (atype := .long) (ty := .long) (a0 := (1, (.inr (.inl (fun _ => 0))))) 2 rfl rfl (by intro C q; cases q) zac_long (fun _ => rfl) (by decide) (by decide) (Nat.le_of_ble_eq_true rfl) ⟨Nat.le_trans (Nat.le_of_ble_eq_true rfl) hcs.1, Nat.le_trans (Nat.le_of_ble_eq_true rfl) hcs.2⟩ dL_law__17 ?_
    refine b_astore_n F3 [(3, zr G 603), (2, zr G 116), (1, zr G 0), (0, .ref b)] dL_law__19 rfl (Nat.le_of_ble_eq_true rfl) rfl ?_
    refine b_iconst (y := (0 : Int32)) F3 dL_law__20 rfl ?_
    refine b_istore (nn := 0) F3 [(4, .int 0), (3, zr G 603), (2, zr G 116), (1, zr G 0), (0, .ref b)] dL_law__21 (Nat.le_of_ble_eq_true rfl) rfl ?_
    refine b_ls [(0, .ref b), (1, zr G 0), (2, zr G 116), (3, zr G 603), (4, .int (nI 0))] [4, 3, 2, 1, 0] rfl ?_
    refine zB_E (ce' := fun i => zE (zGo D g ci s.heap.size 604) (w i) i) (fun i hi => ?_) ?_
    · by_cases e : i = 603
      · subst e
        refine Or.inl ?_
        rw [bup_s, h603, ← hGG]
        rfl
      · rw [bup_n e, ← hGG]
        exact Or.inl (zE_G _ hi)
    · rw [← hGG]
      exact fun H locs la hP hS hl _ => J H locs la hP hS hl
  have hl := lv_entry ([.ref b]) (n := 7) (Nat.le_of_ble_eq_true rfl)
  rw [lg_entry_eq]
  have K2 := K s.heap [] _ (fun k q h => by cases h) (by rw [ex]; exact va_S.rf) hl (by rw [ex]; exact Nat.le_refl _)
  rw [ex] at K2
  exact K2
end
