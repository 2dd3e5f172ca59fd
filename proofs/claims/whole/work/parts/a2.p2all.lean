/-! ALL CALLS -/
section
theorem fL_keeps {v : zV} (hInv : sInv v) (k p1 p2 p3 p4 p5 p6 : Int32) : ∃ w, fLstep k p1 p2 p3 p4 p5 p6 v = some w ∧ sInv w := by
  unfold fLstep
  by_cases h0 : k = (0 : Int32)
  · rw [if_pos h0]
    exact case_0 hInv p1 p2 p3 p4 p5
  rw [if_neg h0]
  by_cases h1 : k = (1 : Int32)
  · rw [if_pos h1]
    exact case_1 hInv p1
  rw [if_neg h1]
  by_cases h2 : k = (2 : Int32)
  · rw [if_pos h2]
    exact case_2 hInv p1
  rw [if_neg h2]
  by_cases h3 : k = (3 : Int32)
  · rw [if_pos h3]
    exact case_3 hInv p1
  rw [if_neg h3]
  by_cases h4 : k = (4 : Int32)
  · rw [if_pos h4]
    exact case_4 hInv 
  rw [if_neg h4]
  by_cases h5 : k = (5 : Int32)
  · rw [if_pos h5]
    exact case_5 hInv p1
  rw [if_neg h5]
  by_cases h6 : k = (6 : Int32)
  · rw [if_pos h6]
    exact case_6 hInv p1 p2
  rw [if_neg h6]
  by_cases h7 : k = (7 : Int32)
  · rw [if_pos h7]
    exact case_7 hInv p1
  rw [if_neg h7]
  by_cases h8 : k = (8 : Int32)
  · rw [if_pos h8]
    exact case_8 hInv p1 p2
  rw [if_neg h8]
  by_cases h9 : k = (9 : Int32)
  · rw [if_pos h9]
    exact case_9 hInv p1
  rw [if_neg h9]
  by_cases h10 : k = (10 : Int32)
  · rw [if_pos h10]
    exact case_10 hInv p1 p2
  rw [if_neg h10]
  by_cases h11 : k = (11 : Int32)
  · rw [if_pos h11]
    exact case_11 hInv p1
  rw [if_neg h11]
  by_cases h12 : k = (12 : Int32)
  · rw [if_pos h12]
    exact case_12 hInv 
  rw [if_neg h12]
  by_cases h13 : k = (13 : Int32)
  · rw [if_pos h13]
    exact case_13 hInv p1
  rw [if_neg h13]
  by_cases h14 : k = (14 : Int32)
  · rw [if_pos h14]
    exact case_14 hInv p1
  rw [if_neg h14]
  by_cases h15 : k = (15 : Int32)
  · rw [if_pos h15]
    exact case_15 hInv p1
  rw [if_neg h15]
  by_cases h16 : k = (16 : Int32)
  · rw [if_pos h16]
    exact case_16 hInv p1
  rw [if_neg h16]
  by_cases h17 : k = (17 : Int32)
  · rw [if_pos h17]
    exact case_17 hInv p1
  rw [if_neg h17]
  by_cases h18 : k = (18 : Int32)
  · rw [if_pos h18]
    exact case_18 hInv p1 p2
  rw [if_neg h18]
  by_cases h19 : k = (19 : Int32)
  · rw [if_pos h19]
    exact case_19 hInv p1 p2
  rw [if_neg h19]
  by_cases h20 : k = (20 : Int32)
  · rw [if_pos h20]
    exact case_20 hInv p1
  rw [if_neg h20]
  by_cases h21 : k = (21 : Int32)
  · rw [if_pos h21]
    exact case_21 hInv 
  rw [if_neg h21]
  by_cases h22 : k = (22 : Int32)
  · rw [if_pos h22]
    exact case_22 hInv p1 p2 p3 p4
  rw [if_neg h22]
  by_cases h23 : k = (23 : Int32)
  · rw [if_pos h23]
    exact case_23 hInv p1 p2
  rw [if_neg h23]
  by_cases h24 : k = (24 : Int32)
  · rw [if_pos h24]
    exact case_24 hInv p1 p2
  rw [if_neg h24]
  by_cases h25 : k = (25 : Int32)
  · rw [if_pos h25]
    exact case_25 hInv p1
  rw [if_neg h25]
  by_cases h26 : k = (26 : Int32)
  · rw [if_pos h26]
    exact case_26 hInv 
  rw [if_neg h26]
  by_cases h27 : k = (27 : Int32)
  · rw [if_pos h27]
    exact case_27 hInv p1
  rw [if_neg h27]
  by_cases h28 : k = (28 : Int32)
  · rw [if_pos h28]
    exact case_28 hInv p1 p2
  rw [if_neg h28]
  by_cases h29 : k = (29 : Int32)
  · rw [if_pos h29]
    exact case_29 hInv p1 p2 p3
  rw [if_neg h29]
  by_cases h30 : k = (30 : Int32)
  · rw [if_pos h30]
    exact case_30 hInv p1
  rw [if_neg h30]
  by_cases h31 : k = (31 : Int32)
  · rw [if_pos h31]
    exact case_31 hInv 
  rw [if_neg h31]
  by_cases h32 : k = (32 : Int32)
  · rw [if_pos h32]
    exact case_32 hInv p1
  rw [if_neg h32]
  by_cases h33 : k = (33 : Int32)
  · rw [if_pos h33]
    exact case_33 hInv p1 p2 p3 p4
  rw [if_neg h33]
  by_cases h34 : k = (34 : Int32)
  · rw [if_pos h34]
    exact case_34 hInv p1
  rw [if_neg h34]
  by_cases h35 : k = (35 : Int32)
  · rw [if_pos h35]
    exact case_35 hInv p1
  rw [if_neg h35]
  by_cases h36 : k = (36 : Int32)
  · rw [if_pos h36]
    exact case_36 hInv 
  rw [if_neg h36]
  by_cases h37 : k = (37 : Int32)
  · rw [if_pos h37]
    exact case_37 hInv p1
  rw [if_neg h37]
  by_cases h38 : k = (38 : Int32)
  · rw [if_pos h38]
    exact case_38 hInv p1
  rw [if_neg h38]
  by_cases h39 : k = (39 : Int32)
  · rw [if_pos h39]
    exact case_39 hInv p1
  rw [if_neg h39]
  by_cases h40 : k = (40 : Int32)
  · rw [if_pos h40]
    exact case_40 hInv 
  rw [if_neg h40]
  by_cases h41 : k = (41 : Int32)
  · rw [if_pos h41]
    exact case_41 hInv 
  rw [if_neg h41]
  by_cases h42 : k = (42 : Int32)
  · rw [if_pos h42]
    exact case_42 hInv p1
  rw [if_neg h42]
  by_cases h43 : k = (43 : Int32)
  · rw [if_pos h43]
    exact case_43 hInv p1
  rw [if_neg h43]
  by_cases h44 : k = (44 : Int32)
  · rw [if_pos h44]
    exact case_44 hInv 
  rw [if_neg h44]
  by_cases h45 : k = (45 : Int32)
  · rw [if_pos h45]
    exact case_45 hInv p1
  rw [if_neg h45]
  by_cases h46 : k = (46 : Int32)
  · rw [if_pos h46]
    exact case_46 hInv p1 p2 p3 p4
  rw [if_neg h46]
  by_cases h47 : k = (47 : Int32)
  · rw [if_pos h47]
    exact case_47 hInv p1 p2 p3 p4 p5 p6
  rw [if_neg h47]
  by_cases h48 : k = (48 : Int32)
  · rw [if_pos h48]
    exact case_48 hInv 
  rw [if_neg h48]
  by_cases h49 : k = (49 : Int32)
  · rw [if_pos h49]
    exact case_49 hInv 
  rw [if_neg h49]
  by_cases h50 : k = (50 : Int32)
  · rw [if_pos h50]
    exact case_50 hInv p1
  rw [if_neg h50]
  by_cases h51 : k = (51 : Int32)
  · rw [if_pos h51]
    exact case_51 hInv p1
  rw [if_neg h51]
  exact ⟨v, rfl, hInv⟩
end
