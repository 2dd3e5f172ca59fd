/-! multianewarray: N rows of K ints -/
def bmna (G : zG) (ce : Nat → va_E) (n N K : Nat) : Nat → va_E := fun j => if j = n then .inl (G.2.1 3, N, .inr (.inr (.inr (.inr (fun i => if i < N then some (G.2.2 + n + 1 + i) else none))))) else if n < j ∧ j ≤ n + N then .inl (G.2.1 0, K, .inl (fun _ => 0)) else ce j
section ZM
variable {x : zCx} {G : zG} {cc : ByteArray} {nL : Nat} {own : String} {fr lo : Nat} {Q : State → Prop} {cs sl pc : Nat} {ls : List (Nat × Value)} {st : List Value} {n : Nat} {ce : Nat → va_E}
theorem b_mna (F : zF x G cc nL own fr lo) {idx : Nat} (hcl : Cond.classLink own idx "[[I" ∈ zTbl) (hov : Cond.arrayOver (.array .int) ∈ lw_tbl) (hac : Cond.arrayClass .int ∈ zTbl) {m k : Int32} {N' K' : Nat} (hm : ¬ m < 0) (hk : ¬ k < 0) (hN : m.toNatClampNeg = N') (hK : k.toNatClampNeg = K') (hb1 : N' * 4 ≤ 536870912) (hb2 : K' * componentBytes .int ≤ 536870912) (hb3 : K' ≤ 536870912) (hcs : cs + (1 + N') ≤ x.2.2.2.1.cells ∧ sl + (N' + N' * K') ≤ x.2.2.2.1.slots) (hd : decode cc pc = .ok (.multianewarray idx 2, 4)) (kk : zB x G nL Q (cs + 1 + N') (sl + N' + N' * K') (pc + 4) ls (zr G n :: st) (n + 1 + N') (bmna G ce n N' K')) : zB x G nL Q cs sl pc ls (.int k :: .int m :: st) n ce := by
  sorry
end ZM
