/-! THE CELLS of the class, made -/
section
def zCe (G : zG) : Nat → va_E := fun _ => .inl (G.2.1 0, 0, .inl (fun _ => 0))
def zC9 (G : zG) : Nat → va_E := ceX9_init_0 G (bup (zCe G) 0 (.inr (9, [.null, .null, .null, .null, .null, .null, .null, .null, .null, .null, .int 0, .null, .null, .null, .null, .int 0, .int 0])))
set_option maxRecDepth 20000 in
theorem zC9_0 (G : zG) : zEq (zC9 G 0) (zE G (zV0 0) 0) := Or.inl rfl
set_option maxRecDepth 20000 in
theorem zC9_1 (G : zG) : zEq (zC9 G 1) (zE G (zV0 1) 1) := Or.inl rfl
set_option maxRecDepth 20000 in
theorem zC9_2 (G : zG) : zEq (zC9 G 2) (zE G (zV0 2) 2) := Or.inl rfl
set_option maxRecDepth 20000 in
theorem zC9_3 (G : zG) : zEq (zC9 G 3) (zE G (zV0 3) 3) := Or.inl rfl
set_option maxRecDepth 20000 in
theorem zC9_4 (G : zG) : zEq (zC9 G 4) (zE G (zV0 4) 4) := Or.inl rfl
set_option maxRecDepth 20000 in
theorem zC9_5 (G : zG) : zEq (zC9 G 5) (zE G (zV0 5) 5) := Or.inl rfl
set_option maxRecDepth 20000 in
theorem zC9_6 (G : zG) : zEq (zC9 G 6) (zE G (zV0 6) 6) := Or.inl rfl
set_option maxRecDepth 20000 in
theorem zC9_7 (G : zG) : zEq (zC9 G 7) (zE G (zV0 7) 7) := Or.inl rfl
set_option maxRecDepth 20000 in
theorem zC9_8 (G : zG) : zEq (zC9 G 8) (zE G (zV0 8) 8) := Or.inl rfl
set_option maxRecDepth 20000 in
theorem zC9_9 (G : zG) : zEq (zC9 G 9) (zE G (zV0 9) 9) := Or.inl rfl
set_option maxRecDepth 20000 in
theorem zC9_10 (G : zG) : zEq (zC9 G 10) (zE G (zV0 10) 10) := Or.inl rfl
set_option maxRecDepth 20000 in
theorem zC9_11 (G : zG) : zEq (zC9 G 11) (zE G (zV0 11) 11) := Or.inl rfl
set_option maxRecDepth 20000 in
theorem zC9_12 (G : zG) : zEq (zC9 G 12) (zE G (zV0 12) 12) := Or.inl rfl
set_option maxRecDepth 20000 in
theorem zC9_13 (G : zG) : zEq (zC9 G 13) (zE G (zV0 13) 13) := Or.inl rfl
set_option maxRecDepth 20000 in
theorem zC9_14 (G : zG) : zEq (zC9 G 14) (zE G (zV0 14) 14) := Or.inl rfl
set_option maxRecDepth 20000 in
theorem zC9_15 (G : zG) : zEq (zC9 G 15) (zE G (zV0 15) 15) := Or.inl rfl
set_option maxRecDepth 20000 in
theorem zC9_16 (G : zG) : zEq (zC9 G 16) (zE G (zV0 16) 16) := Or.inl rfl
set_option maxRecDepth 20000 in
theorem zC9_17 (G : zG) : zEq (zC9 G 17) (zE G (zV0 17) 17) := Or.inl rfl
set_option maxRecDepth 20000 in
theorem zC9_18 (G : zG) : zEq (zC9 G 18) (zE G (zV0 18) 18) := Or.inl rfl
set_option maxRecDepth 20000 in
theorem zC9_19 (G : zG) : zEq (zC9 G 19) (zE G (zV0 19) 19) := Or.inl rfl
set_option maxRecDepth 20000 in
theorem zC9_20 (G : zG) : zEq (zC9 G 20) (zE G (zV0 20) 20) := Or.inl rfl
set_option maxRecDepth 20000 in
theorem zC9_21 (G : zG) : zEq (zC9 G 21) (zE G (zV0 21) 21) := Or.inl rfl
set_option maxRecDepth 20000 in
theorem zC9_22 (G : zG) : zEq (zC9 G 22) (zE G (zV0 22) 22) := Or.inl rfl
set_option maxRecDepth 20000 in
theorem zC9_23 (G : zG) : zEq (zC9 G 23) (zE G (zV0 23) 23) := Or.inl rfl
set_option maxRecDepth 20000 in
theorem zC9_24 (G : zG) : zEq (zC9 G 24) (zE G (zV0 24) 24) := Or.inl rfl
set_option maxRecDepth 20000 in
theorem zC9_25 (G : zG) : zEq (zC9 G 25) (zE G (zV0 25) 25) := Or.inl rfl
set_option maxRecDepth 20000 in
theorem zC9_26 (G : zG) : zEq (zC9 G 26) (zE G (zV0 26) 26) := Or.inl rfl
set_option maxRecDepth 20000 in
theorem zC9_27 (G : zG) : zEq (zC9 G 27) (zE G (zV0 27) 27) := Or.inl rfl
set_option maxRecDepth 20000 in
theorem zC9_28 (G : zG) : zEq (zC9 G 28) (zE G (zV0 28) 28) := Or.inl rfl
set_option maxRecDepth 20000 in
theorem zC9_29 (G : zG) : zEq (zC9 G 29) (zE G (zV0 29) 29) := Or.inl rfl
set_option maxRecDepth 20000 in
theorem zC9_30 (G : zG) : zEq (zC9 G 30) (zE G (zV0 30) 30) := Or.inl rfl
set_option maxRecDepth 20000 in
theorem zC9_31 (G : zG) : zEq (zC9 G 31) (zE G (zV0 31) 31) := Or.inl rfl
set_option maxRecDepth 20000 in
theorem zC9_32 (G : zG) : zEq (zC9 G 32) (zE G (zV0 32) 32) := Or.inl rfl
set_option maxRecDepth 20000 in
theorem zC9_33 (G : zG) : zEq (zC9 G 33) (zE G (zV0 33) 33) := Or.inl rfl
set_option maxRecDepth 20000 in
theorem zC9_34 (G : zG) : zEq (zC9 G 34) (zE G (zV0 34) 34) := Or.inl rfl
set_option maxRecDepth 20000 in
theorem zC9_35 (G : zG) : zEq (zC9 G 35) (zE G (zV0 35) 35) := Or.inl rfl
set_option maxRecDepth 20000 in
theorem zC9_36 (G : zG) : zEq (zC9 G 36) (zE G (zV0 36) 36) := Or.inl rfl
set_option maxRecDepth 20000 in
theorem zC9_37 (G : zG) : zEq (zC9 G 37) (zE G (zV0 37) 37) := Or.inl rfl
set_option maxRecDepth 20000 in
theorem zC9_38 (G : zG) : zEq (zC9 G 38) (zE G (zV0 38) 38) := Or.inl rfl
set_option maxRecDepth 20000 in
theorem zC9_39 (G : zG) : zEq (zC9 G 39) (zE G (zV0 39) 39) := Or.inl rfl
set_option maxRecDepth 20000 in
theorem zC9_40 (G : zG) : zEq (zC9 G 40) (zE G (zV0 40) 40) := Or.inl rfl
set_option maxRecDepth 20000 in
theorem zC9_41 (G : zG) : zEq (zC9 G 41) (zE G (zV0 41) 41) := Or.inl rfl
set_option maxRecDepth 20000 in
theorem zC9_42 (G : zG) : zEq (zC9 G 42) (zE G (zV0 42) 42) := Or.inl rfl
set_option maxRecDepth 20000 in
theorem zC9_43 (G : zG) : zEq (zC9 G 43) (zE G (zV0 43) 43) := Or.inl rfl
set_option maxRecDepth 20000 in
theorem zC9_44 (G : zG) : zEq (zC9 G 44) (zE G (zV0 44) 44) := Or.inl rfl
set_option maxRecDepth 20000 in
theorem zC9_45 (G : zG) : zEq (zC9 G 45) (zE G (zV0 45) 45) := Or.inl rfl
set_option maxRecDepth 20000 in
theorem zC9_46 (G : zG) : zEq (zC9 G 46) (zE G (zV0 46) 46) := Or.inl rfl
set_option maxRecDepth 20000 in
theorem zC9_47 (G : zG) : zEq (zC9 G 47) (zE G (zV0 47) 47) := Or.inl rfl
set_option maxRecDepth 20000 in
theorem zC9_48 (G : zG) : zEq (zC9 G 48) (zE G (zV0 48) 48) := Or.inl rfl
set_option maxRecDepth 20000 in
theorem zC9_49 (G : zG) : zEq (zC9 G 49) (zE G (zV0 49) 49) := by
  refine Or.inr ⟨_, _, _, _, rfl, rfl, fun k hk => ?_⟩
  have : k = 0 ∨ k = 1 ∨ k = 2 := by omega
  rcases this with rfl | rfl | rfl <;> rfl
set_option maxRecDepth 20000 in
theorem zC9_50 (G : zG) : zEq (zC9 G 50) (zE G (zV0 50) 50) := Or.inl rfl
set_option maxRecDepth 20000 in
theorem zC9_51 (G : zG) : zEq (zC9 G 51) (zE G (zV0 51) 51) := Or.inl rfl
set_option maxRecDepth 20000 in
theorem zC9_52 (G : zG) : zEq (zC9 G 52) (zE G (zV0 52) 52) := Or.inl rfl
set_option maxRecDepth 20000 in
theorem zC9_53 (G : zG) : zEq (zC9 G 53) (zE G (zV0 53) 53) := Or.inl rfl
set_option maxRecDepth 20000 in
theorem zC9_54 (G : zG) : zEq (zC9 G 54) (zE G (zV0 54) 54) := Or.inl rfl
set_option maxRecDepth 20000 in
theorem zC9_55 (G : zG) : zEq (zC9 G 55) (zE G (zV0 55) 55) := Or.inl rfl
set_option maxRecDepth 20000 in
theorem zC9_56 (G : zG) : zEq (zC9 G 56) (zE G (zV0 56) 56) := Or.inl rfl
set_option maxRecDepth 20000 in
theorem zC9_57 (G : zG) : zEq (zC9 G 57) (zE G (zV0 57) 57) := Or.inl rfl
set_option maxRecDepth 20000 in
theorem zC9_58 (G : zG) : zEq (zC9 G 58) (zE G (zV0 58) 58) := Or.inl rfl
set_option maxRecDepth 20000 in
theorem zC9_59 (G : zG) : zEq (zC9 G 59) (zE G (zV0 59) 59) := by
  refine Or.inr ⟨_, _, _, _, rfl, rfl, fun k hk => ?_⟩
  have : k = 0 ∨ k = 1 ∨ k = 2 ∨ k = 3 := by omega
  rcases this with rfl | rfl | rfl | rfl <;> rfl
set_option maxRecDepth 20000 in
theorem zC9_60 (G : zG) : zEq (zC9 G 60) (zE G (zV0 60) 60) := Or.inl rfl
set_option maxRecDepth 20000 in
theorem zC9_61 (G : zG) : zEq (zC9 G 61) (zE G (zV0 61) 61) := Or.inl rfl
set_option maxRecDepth 20000 in
theorem zC9_62 (G : zG) : zEq (zC9 G 62) (zE G (zV0 62) 62) := Or.inl rfl
set_option maxRecDepth 20000 in
theorem zC9_63 (G : zG) : zEq (zC9 G 63) (zE G (zV0 63) 63) := Or.inl rfl
set_option maxRecDepth 20000 in
theorem zC9_64 (G : zG) : zEq (zC9 G 64) (zE G (zV0 64) 64) := Or.inl rfl
set_option maxRecDepth 20000 in
theorem zC9_65 (G : zG) : zEq (zC9 G 65) (zE G (zV0 65) 65) := Or.inl rfl
set_option maxRecDepth 20000 in
theorem zC9_66 (G : zG) : zEq (zC9 G 66) (zE G (zV0 66) 66) := Or.inl rfl
set_option maxRecDepth 20000 in
theorem zC9_67 (G : zG) : zEq (zC9 G 67) (zE G (zV0 67) 67) := Or.inl rfl
set_option maxRecDepth 20000 in
theorem zC9_68 (G : zG) : zEq (zC9 G 68) (zE G (zV0 68) 68) := Or.inl rfl
set_option maxRecDepth 20000 in
theorem zC9_69 (G : zG) : zEq (zC9 G 69) (zE G (zV0 69) 69) := Or.inl rfl
set_option maxRecDepth 20000 in
theorem zC9_70 (G : zG) : zEq (zC9 G 70) (zE G (zV0 70) 70) := Or.inl rfl
set_option maxRecDepth 20000 in
theorem zC9_71 (G : zG) : zEq (zC9 G 71) (zE G (zV0 71) 71) := Or.inl rfl
set_option maxRecDepth 20000 in
theorem zC9_72 (G : zG) : zEq (zC9 G 72) (zE G (zV0 72) 72) := Or.inl rfl
set_option maxRecDepth 20000 in
theorem zC9_73 (G : zG) : zEq (zC9 G 73) (zE G (zV0 73) 73) := Or.inl rfl
set_option maxRecDepth 20000 in
theorem zC9_74 (G : zG) : zEq (zC9 G 74) (zE G (zV0 74) 74) := Or.inl rfl
set_option maxRecDepth 20000 in
theorem zC9_75 (G : zG) : zEq (zC9 G 75) (zE G (zV0 75) 75) := Or.inl rfl
set_option maxRecDepth 20000 in
theorem zC9_76 (G : zG) : zEq (zC9 G 76) (zE G (zV0 76) 76) := Or.inl rfl
set_option maxRecDepth 20000 in
theorem zC9_77 (G : zG) : zEq (zC9 G 77) (zE G (zV0 77) 77) := Or.inl rfl
set_option maxRecDepth 20000 in
theorem zC9_78 (G : zG) : zEq (zC9 G 78) (zE G (zV0 78) 78) := Or.inl rfl
set_option maxRecDepth 20000 in
theorem zC9_79 (G : zG) : zEq (zC9 G 79) (zE G (zV0 79) 79) := Or.inl rfl
set_option maxRecDepth 20000 in
theorem zC9_80 (G : zG) : zEq (zC9 G 80) (zE G (zV0 80) 80) := Or.inl rfl
set_option maxRecDepth 20000 in
theorem zC9_81 (G : zG) : zEq (zC9 G 81) (zE G (zV0 81) 81) := Or.inl rfl
set_option maxRecDepth 20000 in
theorem zC9_82 (G : zG) : zEq (zC9 G 82) (zE G (zV0 82) 82) := Or.inl rfl
set_option maxRecDepth 20000 in
theorem zC9_83 (G : zG) : zEq (zC9 G 83) (zE G (zV0 83) 83) := Or.inl rfl
set_option maxRecDepth 20000 in
theorem zC9_84 (G : zG) : zEq (zC9 G 84) (zE G (zV0 84) 84) := Or.inl rfl
set_option maxRecDepth 20000 in
theorem zC9_85 (G : zG) : zEq (zC9 G 85) (zE G (zV0 85) 85) := Or.inl rfl
set_option maxRecDepth 20000 in
theorem zC9_86 (G : zG) : zEq (zC9 G 86) (zE G (zV0 86) 86) := Or.inl rfl
set_option maxRecDepth 20000 in
theorem zC9_87 (G : zG) : zEq (zC9 G 87) (zE G (zV0 87) 87) := Or.inl rfl
set_option maxRecDepth 20000 in
theorem zC9_88 (G : zG) : zEq (zC9 G 88) (zE G (zV0 88) 88) := Or.inl rfl
set_option maxRecDepth 20000 in
theorem zC9_89 (G : zG) : zEq (zC9 G 89) (zE G (zV0 89) 89) := Or.inl rfl
set_option maxRecDepth 20000 in
theorem zC9_90 (G : zG) : zEq (zC9 G 90) (zE G (zV0 90) 90) := Or.inl rfl
set_option maxRecDepth 20000 in
theorem zC9_91 (G : zG) : zEq (zC9 G 91) (zE G (zV0 91) 91) := Or.inl rfl
set_option maxRecDepth 20000 in
theorem zC9_92 (G : zG) : zEq (zC9 G 92) (zE G (zV0 92) 92) := Or.inl rfl
set_option maxRecDepth 20000 in
theorem zC9_93 (G : zG) : zEq (zC9 G 93) (zE G (zV0 93) 93) := Or.inl rfl
set_option maxRecDepth 20000 in
theorem zC9_94 (G : zG) : zEq (zC9 G 94) (zE G (zV0 94) 94) := Or.inl rfl
set_option maxRecDepth 20000 in
theorem zC9_95 (G : zG) : zEq (zC9 G 95) (zE G (zV0 95) 95) := Or.inl rfl
set_option maxRecDepth 20000 in
theorem zC9_96 (G : zG) : zEq (zC9 G 96) (zE G (zV0 96) 96) := Or.inl rfl
set_option maxRecDepth 20000 in
theorem zC9_97 (G : zG) : zEq (zC9 G 97) (zE G (zV0 97) 97) := Or.inl rfl
set_option maxRecDepth 20000 in
theorem zC9_98 (G : zG) : zEq (zC9 G 98) (zE G (zV0 98) 98) := Or.inl rfl
set_option maxRecDepth 20000 in
theorem zC9_99 (G : zG) : zEq (zC9 G 99) (zE G (zV0 99) 99) := Or.inl rfl
set_option maxRecDepth 20000 in
theorem zC9_100 (G : zG) : zEq (zC9 G 100) (zE G (zV0 100) 100) := Or.inl rfl
set_option maxRecDepth 20000 in
theorem zC9_101 (G : zG) : zEq (zC9 G 101) (zE G (zV0 101) 101) := Or.inl rfl
set_option maxRecDepth 20000 in
theorem zC9_102 (G : zG) : zEq (zC9 G 102) (zE G (zV0 102) 102) := Or.inl rfl
set_option maxRecDepth 20000 in
theorem zC9_103 (G : zG) : zEq (zC9 G 103) (zE G (zV0 103) 103) := Or.inl rfl
set_option maxRecDepth 20000 in
theorem zC9_104 (G : zG) : zEq (zC9 G 104) (zE G (zV0 104) 104) := Or.inl rfl
set_option maxRecDepth 20000 in
theorem zC9_105 (G : zG) : zEq (zC9 G 105) (zE G (zV0 105) 105) := Or.inl rfl
set_option maxRecDepth 20000 in
theorem zC9_106 (G : zG) : zEq (zC9 G 106) (zE G (zV0 106) 106) := Or.inl rfl
set_option maxRecDepth 20000 in
theorem zC9_107 (G : zG) : zEq (zC9 G 107) (zE G (zV0 107) 107) := Or.inl rfl
set_option maxRecDepth 20000 in
theorem zC9_108 (G : zG) : zEq (zC9 G 108) (zE G (zV0 108) 108) := Or.inl rfl
set_option maxRecDepth 20000 in
theorem zC9_109 (G : zG) : zEq (zC9 G 109) (zE G (zV0 109) 109) := Or.inl rfl
set_option maxRecDepth 20000 in
theorem zC9_110 (G : zG) : zEq (zC9 G 110) (zE G (zV0 110) 110) := Or.inl rfl
set_option maxRecDepth 20000 in
theorem zC9_111 (G : zG) : zEq (zC9 G 111) (zE G (zV0 111) 111) := Or.inl rfl
set_option maxRecDepth 20000 in
theorem zC9_112 (G : zG) : zEq (zC9 G 112) (zE G (zV0 112) 112) := Or.inl rfl
set_option maxRecDepth 20000 in
theorem zC9_113 (G : zG) : zEq (zC9 G 113) (zE G (zV0 113) 113) := Or.inl rfl
set_option maxRecDepth 20000 in
theorem zC9_114 (G : zG) : zEq (zC9 G 114) (zE G (zV0 114) 114) := Or.inl rfl
set_option maxRecDepth 20000 in
theorem zC9_115 (G : zG) : zEq (zC9 G 115) (zE G (zV0 115) 115) := Or.inl rfl
theorem zC9_all (G : zG) : ∀ i, i < 116 → zEq (zC9 G i) (zC0 G i) := by
  intro i hi
  by_cases q0 : i = 0
  · rw [q0]; exact zC9_0 G
  by_cases q1 : i = 1
  · rw [q1]; exact zC9_1 G
  by_cases q2 : i = 2
  · rw [q2]; exact zC9_2 G
  by_cases q3 : i = 3
  · rw [q3]; exact zC9_3 G
  by_cases q4 : i = 4
  · rw [q4]; exact zC9_4 G
  by_cases q5 : i = 5
  · rw [q5]; exact zC9_5 G
  by_cases q6 : i = 6
  · rw [q6]; exact zC9_6 G
  by_cases q7 : i = 7
  · rw [q7]; exact zC9_7 G
  by_cases q8 : i = 8
  · rw [q8]; exact zC9_8 G
  by_cases q9 : i = 9
  · rw [q9]; exact zC9_9 G
  by_cases q10 : i = 10
  · rw [q10]; exact zC9_10 G
  by_cases q11 : i = 11
  · rw [q11]; exact zC9_11 G
  by_cases q12 : i = 12
  · rw [q12]; exact zC9_12 G
  by_cases q13 : i = 13
  · rw [q13]; exact zC9_13 G
  by_cases q14 : i = 14
  · rw [q14]; exact zC9_14 G
  by_cases q15 : i = 15
  · rw [q15]; exact zC9_15 G
  by_cases q16 : i = 16
  · rw [q16]; exact zC9_16 G
  by_cases q17 : i = 17
  · rw [q17]; exact zC9_17 G
  by_cases q18 : i = 18
  · rw [q18]; exact zC9_18 G
  by_cases q19 : i = 19
  · rw [q19]; exact zC9_19 G
  by_cases q20 : i = 20
  · rw [q20]; exact zC9_20 G
  by_cases q21 : i = 21
  · rw [q21]; exact zC9_21 G
  by_cases q22 : i = 22
  · rw [q22]; exact zC9_22 G
  by_cases q23 : i = 23
  · rw [q23]; exact zC9_23 G
  by_cases q24 : i = 24
  · rw [q24]; exact zC9_24 G
  by_cases q25 : i = 25
  · rw [q25]; exact zC9_25 G
  by_cases q26 : i = 26
  · rw [q26]; exact zC9_26 G
  by_cases q27 : i = 27
  · rw [q27]; exact zC9_27 G
  by_cases q28 : i = 28
  · rw [q28]; exact zC9_28 G
  by_cases q29 : i = 29
  · rw [q29]; exact zC9_29 G
  by_cases q30 : i = 30
  · rw [q30]; exact zC9_30 G
  by_cases q31 : i = 31
  · rw [q31]; exact zC9_31 G
  by_cases q32 : i = 32
  · rw [q32]; exact zC9_32 G
  by_cases q33 : i = 33
  · rw [q33]; exact zC9_33 G
  by_cases q34 : i = 34
  · rw [q34]; exact zC9_34 G
  by_cases q35 : i = 35
  · rw [q35]; exact zC9_35 G
  by_cases q36 : i = 36
  · rw [q36]; exact zC9_36 G
  by_cases q37 : i = 37
  · rw [q37]; exact zC9_37 G
  by_cases q38 : i = 38
  · rw [q38]; exact zC9_38 G
  by_cases q39 : i = 39
  · rw [q39]; exact zC9_39 G
  by_cases q40 : i = 40
  · rw [q40]; exact zC9_40 G
  by_cases q41 : i = 41
  · rw [q41]; exact zC9_41 G
  by_cases q42 : i = 42
  · rw [q42]; exact zC9_42 G
  by_cases q43 : i = 43
  · rw [q43]; exact zC9_43 G
  by_cases q44 : i = 44
  · rw [q44]; exact zC9_44 G
  by_cases q45 : i = 45
  · rw [q45]; exact zC9_45 G
  by_cases q46 : i = 46
  · rw [q46]; exact zC9_46 G
  by_cases q47 : i = 47
  · rw [q47]; exact zC9_47 G
  by_cases q48 : i = 48
  · rw [q48]; exact zC9_48 G
  by_cases q49 : i = 49
  · rw [q49]; exact zC9_49 G
  by_cases q50 : i = 50
  · rw [q50]; exact zC9_50 G
  by_cases q51 : i = 51
  · rw [q51]; exact zC9_51 G
  by_cases q52 : i = 52
  · rw [q52]; exact zC9_52 G
  by_cases q53 : i = 53
  · rw [q53]; exact zC9_53 G
  by_cases q54 : i = 54
  · rw [q54]; exact zC9_54 G
  by_cases q55 : i = 55
  · rw [q55]; exact zC9_55 G
  by_cases q56 : i = 56
  · rw [q56]; exact zC9_56 G
  by_cases q57 : i = 57
  · rw [q57]; exact zC9_57 G
  by_cases q58 : i = 58
  · rw [q58]; exact zC9_58 G
  by_cases q59 : i = 59
  · rw [q59]; exact zC9_59 G
  by_cases q60 : i = 60
  · rw [q60]; exact zC9_60 G
  by_cases q61 : i = 61
  · rw [q61]; exact zC9_61 G
  by_cases q62 : i = 62
  · rw [q62]; exact zC9_62 G
  by_cases q63 : i = 63
  · rw [q63]; exact zC9_63 G
  by_cases q64 : i = 64
  · rw [q64]; exact zC9_64 G
  by_cases q65 : i = 65
  · rw [q65]; exact zC9_65 G
  by_cases q66 : i = 66
  · rw [q66]; exact zC9_66 G
  by_cases q67 : i = 67
  · rw [q67]; exact zC9_67 G
  by_cases q68 : i = 68
  · rw [q68]; exact zC9_68 G
  by_cases q69 : i = 69
  · rw [q69]; exact zC9_69 G
  by_cases q70 : i = 70
  · rw [q70]; exact zC9_70 G
  by_cases q71 : i = 71
  · rw [q71]; exact zC9_71 G
  by_cases q72 : i = 72
  · rw [q72]; exact zC9_72 G
  by_cases q73 : i = 73
  · rw [q73]; exact zC9_73 G
  by_cases q74 : i = 74
  · rw [q74]; exact zC9_74 G
  by_cases q75 : i = 75
  · rw [q75]; exact zC9_75 G
  by_cases q76 : i = 76
  · rw [q76]; exact zC9_76 G
  by_cases q77 : i = 77
  · rw [q77]; exact zC9_77 G
  by_cases q78 : i = 78
  · rw [q78]; exact zC9_78 G
  by_cases q79 : i = 79
  · rw [q79]; exact zC9_79 G
  by_cases q80 : i = 80
  · rw [q80]; exact zC9_80 G
  by_cases q81 : i = 81
  · rw [q81]; exact zC9_81 G
  by_cases q82 : i = 82
  · rw [q82]; exact zC9_82 G
  by_cases q83 : i = 83
  · rw [q83]; exact zC9_83 G
  by_cases q84 : i = 84
  · rw [q84]; exact zC9_84 G
  by_cases q85 : i = 85
  · rw [q85]; exact zC9_85 G
  by_cases q86 : i = 86
  · rw [q86]; exact zC9_86 G
  by_cases q87 : i = 87
  · rw [q87]; exact zC9_87 G
  by_cases q88 : i = 88
  · rw [q88]; exact zC9_88 G
  by_cases q89 : i = 89
  · rw [q89]; exact zC9_89 G
  by_cases q90 : i = 90
  · rw [q90]; exact zC9_90 G
  by_cases q91 : i = 91
  · rw [q91]; exact zC9_91 G
  by_cases q92 : i = 92
  · rw [q92]; exact zC9_92 G
  by_cases q93 : i = 93
  · rw [q93]; exact zC9_93 G
  by_cases q94 : i = 94
  · rw [q94]; exact zC9_94 G
  by_cases q95 : i = 95
  · rw [q95]; exact zC9_95 G
  by_cases q96 : i = 96
  · rw [q96]; exact zC9_96 G
  by_cases q97 : i = 97
  · rw [q97]; exact zC9_97 G
  by_cases q98 : i = 98
  · rw [q98]; exact zC9_98 G
  by_cases q99 : i = 99
  · rw [q99]; exact zC9_99 G
  by_cases q100 : i = 100
  · rw [q100]; exact zC9_100 G
  by_cases q101 : i = 101
  · rw [q101]; exact zC9_101 G
  by_cases q102 : i = 102
  · rw [q102]; exact zC9_102 G
  by_cases q103 : i = 103
  · rw [q103]; exact zC9_103 G
  by_cases q104 : i = 104
  · rw [q104]; exact zC9_104 G
  by_cases q105 : i = 105
  · rw [q105]; exact zC9_105 G
  by_cases q106 : i = 106
  · rw [q106]; exact zC9_106 G
  by_cases q107 : i = 107
  · rw [q107]; exact zC9_107 G
  by_cases q108 : i = 108
  · rw [q108]; exact zC9_108 G
  by_cases q109 : i = 109
  · rw [q109]; exact zC9_109 G
  by_cases q110 : i = 110
  · rw [q110]; exact zC9_110 G
  by_cases q111 : i = 111
  · rw [q111]; exact zC9_111 G
  by_cases q112 : i = 112
  · rw [q112]; exact zC9_112 G
  by_cases q113 : i = 113
  · rw [q113]; exact zC9_113 G
  by_cases q114 : i = 114
  · rw [q114]; exact zC9_114 G
  obtain rfl : i = 115 := by omega
  exact zC9_115 G
end
