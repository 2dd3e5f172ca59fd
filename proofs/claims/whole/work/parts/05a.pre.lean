abbrev cJ6_bitCount_0f7a4 : ByteArray := prog_18_method_49_code
abbrev cJ9_max_7cf53 : ByteArray := prog_19_method_65_code
abbrev cJ9_min_7cf53 : ByteArray := prog_19_method_69_code
abbrev cJ0_length_8abf5 : ByteArray := prog_21_method_54_code
abbrev cJ0_charAt_5068e : ByteArray := prog_21_method_56_code
abbrev cJ0_coder_7d493 : ByteArray := prog_21_method_152_code
abbrev cJ0_isLatin1_aae02 : ByteArray := prog_21_method_154_code
abbrev cJ0_checkIndex_df160 : ByteArray := prog_21_method_155_code
abbrev cJ1_charAt_3b067 : ByteArray := prog_22_method_2_code
abbrev cJ2_getChar_3b067 : ByteArray := prog_23_method_5_code
abbrev cJ2_length_9d52b : ByteArray := prog_23_method_6_code
abbrev cJ2_charAt_3b067 : ByteArray := prog_23_method_83_code
abbrev cJ2_checkIndex_2214a : ByteArray := prog_23_method_91_code
abbrev cJ3_checkIndex_8e157 : ByteArray := prog_29_method_11_code
def zLit0 : List Cond := [(Jvm.Cond.count (1 : Nat)), (Jvm.Cond.isRef (Jvm.Term.arg (0 : Nat))), (Jvm.Cond.arrayOf (Jvm.Term.arg (0 : Nat)) Jvm.ClassFile.FieldType.int), (Jvm.Cond.le (Jvm.Term.length (Jvm.Term.arg (0 : Nat))) (Jvm.Term.int (3584 : Int32))), (Jvm.Cond.isRef (Jvm.Term.static "java/lang/Throwable" "UNASSIGNED_STACK" "[Ljava/lang/StackTraceElement;")), (Jvm.Cond.isRef (Jvm.Term.static "java/lang/Throwable" "SUPPRESSED_SENTINEL" "Ljava/util/List;")), (Jvm.Cond.eq (Jvm.Term.static "java/lang/String" "COMPACT_STRINGS" "Z") (Jvm.Term.int (1 : Int32))), (Jvm.Cond.isRef (Jvm.Term.static "jdk/internal/util/Preconditions" "SIOOBE_FORMATTER" "Ljava/util/function/BiFunction;")), (Jvm.Cond.eq (Jvm.Term.static "java/lang/StringUTF16" "$assertionsDisabled" "Z") (Jvm.Term.int (1 : Int32))), (Jvm.Cond.eq (Jvm.Term.static "java/lang/StringUTF16" "HI_BYTE_SHIFT" "I") (Jvm.Term.int (0 : Int32))), (Jvm.Cond.eq (Jvm.Term.static "java/lang/StringUTF16" "LO_BYTE_SHIFT" "I") (Jvm.Term.int (8 : Int32))), (Jvm.Cond.not (Jvm.Cond.castable "ContraryChairs" "java/lang/IllegalArgumentException")), (Jvm.Cond.not (Jvm.Cond.castable "ContraryChairs$Tape" "java/lang/IllegalArgumentException")), (Jvm.Cond.not (Jvm.Cond.castable "ContraryChairs$Academy" "java/lang/IllegalArgumentException")), (Jvm.Cond.not (Jvm.Cond.castable "ContraryChairs$Law" "java/lang/IllegalArgumentException")), (Jvm.Cond.not (Jvm.Cond.castable "ContraryChairs$Book" "java/lang/IllegalArgumentException")), (Jvm.Cond.not (Jvm.Cond.castable "ContraryChairs$Row" "java/lang/IllegalArgumentException")), (Jvm.Cond.not (Jvm.Cond.castable "ContraryChairs$Calendar" "java/lang/IllegalArgumentException")), (Jvm.Cond.not (Jvm.Cond.castable "ContraryChairs$Foresight" "java/lang/IllegalArgumentException")), (Jvm.Cond.not (Jvm.Cond.castable "ContraryChairs$Records" "java/lang/IllegalArgumentException")), (Jvm.Cond.not (Jvm.Cond.castable "ContraryChairs$Company" "java/lang/IllegalArgumentException")), (Jvm.Cond.not (Jvm.Cond.castable "ContraryChairsModel" "java/lang/IllegalArgumentException")), (Jvm.Cond.not (Jvm.Cond.castable "java/util/NoSuchElementException" "java/lang/IllegalArgumentException")), (Jvm.Cond.not (Jvm.Cond.castable "ContraryChairs" "java/util/NoSuchElementException"))]
def zLit1 : List Cond := [(Jvm.Cond.not (Jvm.Cond.castable "ContraryChairs$Tape" "java/util/NoSuchElementException")), (Jvm.Cond.not (Jvm.Cond.castable "ContraryChairs$Academy" "java/util/NoSuchElementException")), (Jvm.Cond.not (Jvm.Cond.castable "ContraryChairs$Law" "java/util/NoSuchElementException")), (Jvm.Cond.not (Jvm.Cond.castable "ContraryChairs$Book" "java/util/NoSuchElementException")), (Jvm.Cond.not (Jvm.Cond.castable "ContraryChairs$Row" "java/util/NoSuchElementException")), (Jvm.Cond.not (Jvm.Cond.castable "ContraryChairs$Calendar" "java/util/NoSuchElementException")), (Jvm.Cond.not (Jvm.Cond.castable "ContraryChairs$Foresight" "java/util/NoSuchElementException")), (Jvm.Cond.not (Jvm.Cond.castable "ContraryChairs$Records" "java/util/NoSuchElementException")), (Jvm.Cond.not (Jvm.Cond.castable "ContraryChairs$Company" "java/util/NoSuchElementException")), (Jvm.Cond.not (Jvm.Cond.castable "ContraryChairsModel" "java/util/NoSuchElementException")), (Jvm.Cond.not (Jvm.Cond.castable "java/lang/IllegalArgumentException" "java/util/NoSuchElementException")), (Jvm.Cond.exactly (Jvm.Term.string "ContraryChairs$Academy" (116 : Nat)) "java/lang/String"), (Jvm.Cond.eq (Jvm.Term.field (Jvm.Term.string "ContraryChairs$Academy" (116 : Nat)) "java/lang/String" "coder" "B") (Jvm.Term.int (0 : Int32))), (Jvm.Cond.arrayOf (Jvm.Term.field (Jvm.Term.string "ContraryChairs$Academy" (116 : Nat)) "java/lang/String" "value" "[B") Jvm.ClassFile.FieldType.byte), (Jvm.Cond.eq (Jvm.Term.length (Jvm.Term.field (Jvm.Term.string "ContraryChairs$Academy" (116 : Nat)) "java/lang/String" "value" "[B")) (Jvm.Term.int (8 : Int32))), (Jvm.Cond.eq (Jvm.Term.elem (Jvm.Term.field (Jvm.Term.string "ContraryChairs$Academy" (116 : Nat)) "java/lang/String" "value" "[B") (Jvm.Term.int (0 : Int32))) (Jvm.Term.int (113 : Int32))), (Jvm.Cond.eq (Jvm.Term.elem (Jvm.Term.field (Jvm.Term.string "ContraryChairs$Academy" (116 : Nat)) "java/lang/String" "value" "[B") (Jvm.Term.int (1 : Int32))) (Jvm.Term.int (117 : Int32))), (Jvm.Cond.eq (Jvm.Term.elem (Jvm.Term.field (Jvm.Term.string "ContraryChairs$Academy" (116 : Nat)) "java/lang/String" "value" "[B") (Jvm.Term.int (2 : Int32))) (Jvm.Term.int (101 : Int32))), (Jvm.Cond.eq (Jvm.Term.elem (Jvm.Term.field (Jvm.Term.string "ContraryChairs$Academy" (116 : Nat)) "java/lang/String" "value" "[B") (Jvm.Term.int (3 : Int32))) (Jvm.Term.int (115 : Int32))), (Jvm.Cond.eq (Jvm.Term.elem (Jvm.Term.field (Jvm.Term.string "ContraryChairs$Academy" (116 : Nat)) "java/lang/String" "value" "[B") (Jvm.Term.int (4 : Int32))) (Jvm.Term.int (116 : Int32))), (Jvm.Cond.eq (Jvm.Term.elem (Jvm.Term.field (Jvm.Term.string "ContraryChairs$Academy" (116 : Nat)) "java/lang/String" "value" "[B") (Jvm.Term.int (5 : Int32))) (Jvm.Term.int (105 : Int32))), (Jvm.Cond.eq (Jvm.Term.elem (Jvm.Term.field (Jvm.Term.string "ContraryChairs$Academy" (116 : Nat)) "java/lang/String" "value" "[B") (Jvm.Term.int (6 : Int32))) (Jvm.Term.int (111 : Int32))), (Jvm.Cond.eq (Jvm.Term.elem (Jvm.Term.field (Jvm.Term.string "ContraryChairs$Academy" (116 : Nat)) "java/lang/String" "value" "[B") (Jvm.Term.int (7 : Int32))) (Jvm.Term.int (110 : Int32))), (Jvm.Cond.exactly (Jvm.Term.string "ContraryChairs$Academy" (122 : Nat)) "java/lang/String")]
def zLit2 : List Cond := [(Jvm.Cond.eq (Jvm.Term.field (Jvm.Term.string "ContraryChairs$Academy" (122 : Nat)) "java/lang/String" "coder" "B") (Jvm.Term.int (0 : Int32))), (Jvm.Cond.arrayOf (Jvm.Term.field (Jvm.Term.string "ContraryChairs$Academy" (122 : Nat)) "java/lang/String" "value" "[B") Jvm.ClassFile.FieldType.byte), (Jvm.Cond.eq (Jvm.Term.length (Jvm.Term.field (Jvm.Term.string "ContraryChairs$Academy" (122 : Nat)) "java/lang/String" "value" "[B")) (Jvm.Term.int (3 : Int32))), (Jvm.Cond.eq (Jvm.Term.elem (Jvm.Term.field (Jvm.Term.string "ContraryChairs$Academy" (122 : Nat)) "java/lang/String" "value" "[B") (Jvm.Term.int (0 : Int32))) (Jvm.Term.int (109 : Int32))), (Jvm.Cond.eq (Jvm.Term.elem (Jvm.Term.field (Jvm.Term.string "ContraryChairs$Academy" (122 : Nat)) "java/lang/String" "value" "[B") (Jvm.Term.int (1 : Int32))) (Jvm.Term.int (97 : Int32))), (Jvm.Cond.eq (Jvm.Term.elem (Jvm.Term.field (Jvm.Term.string "ContraryChairs$Academy" (122 : Nat)) "java/lang/String" "value" "[B") (Jvm.Term.int (2 : Int32))) (Jvm.Term.int (110 : Int32))), (Jvm.Cond.not (Jvm.Cond.eq (Jvm.Term.string "ContraryChairs$Academy" (116 : Nat)) (Jvm.Term.string "ContraryChairs$Academy" (122 : Nat)))), (Jvm.Cond.exactly (Jvm.Term.string "ContraryChairs$Academy" (124 : Nat)) "java/lang/String"), (Jvm.Cond.eq (Jvm.Term.field (Jvm.Term.string "ContraryChairs$Academy" (124 : Nat)) "java/lang/String" "coder" "B") (Jvm.Term.int (0 : Int32))), (Jvm.Cond.arrayOf (Jvm.Term.field (Jvm.Term.string "ContraryChairs$Academy" (124 : Nat)) "java/lang/String" "value" "[B") Jvm.ClassFile.FieldType.byte), (Jvm.Cond.eq (Jvm.Term.length (Jvm.Term.field (Jvm.Term.string "ContraryChairs$Academy" (124 : Nat)) "java/lang/String" "value" "[B")) (Jvm.Term.int (4 : Int32))), (Jvm.Cond.eq (Jvm.Term.elem (Jvm.Term.field (Jvm.Term.string "ContraryChairs$Academy" (124 : Nat)) "java/lang/String" "value" "[B") (Jvm.Term.int (0 : Int32))) (Jvm.Term.int (115 : Int32))), (Jvm.Cond.eq (Jvm.Term.elem (Jvm.Term.field (Jvm.Term.string "ContraryChairs$Academy" (124 : Nat)) "java/lang/String" "value" "[B") (Jvm.Term.int (1 : Int32))) (Jvm.Term.int (101 : Int32))), (Jvm.Cond.eq (Jvm.Term.elem (Jvm.Term.field (Jvm.Term.string "ContraryChairs$Academy" (124 : Nat)) "java/lang/String" "value" "[B") (Jvm.Term.int (2 : Int32))) (Jvm.Term.int (97 : Int32))), (Jvm.Cond.eq (Jvm.Term.elem (Jvm.Term.field (Jvm.Term.string "ContraryChairs$Academy" (124 : Nat)) "java/lang/String" "value" "[B") (Jvm.Term.int (3 : Int32))) (Jvm.Term.int (116 : Int32))), (Jvm.Cond.not (Jvm.Cond.eq (Jvm.Term.string "ContraryChairs$Academy" (116 : Nat)) (Jvm.Term.string "ContraryChairs$Academy" (124 : Nat)))), (Jvm.Cond.not (Jvm.Cond.eq (Jvm.Term.string "ContraryChairs$Academy" (122 : Nat)) (Jvm.Term.string "ContraryChairs$Academy" (124 : Nat)))), (Jvm.Cond.exactly (Jvm.Term.string "ContraryChairs$Academy" (126 : Nat)) "java/lang/String"), (Jvm.Cond.eq (Jvm.Term.field (Jvm.Term.string "ContraryChairs$Academy" (126 : Nat)) "java/lang/String" "coder" "B") (Jvm.Term.int (0 : Int32))), (Jvm.Cond.arrayOf (Jvm.Term.field (Jvm.Term.string "ContraryChairs$Academy" (126 : Nat)) "java/lang/String" "value" "[B") Jvm.ClassFile.FieldType.byte), (Jvm.Cond.eq (Jvm.Term.length (Jvm.Term.field (Jvm.Term.string "ContraryChairs$Academy" (126 : Nat)) "java/lang/String" "value" "[B")) (Jvm.Term.int (6 : Int32))), (Jvm.Cond.eq (Jvm.Term.elem (Jvm.Term.field (Jvm.Term.string "ContraryChairs$Academy" (126 : Nat)) "java/lang/String" "value" "[B") (Jvm.Term.int (0 : Int32))) (Jvm.Term.int (99 : Int32))), (Jvm.Cond.eq (Jvm.Term.elem (Jvm.Term.field (Jvm.Term.string "ContraryChairs$Academy" (126 : Nat)) "java/lang/String" "value" "[B") (Jvm.Term.int (1 : Int32))) (Jvm.Term.int (104 : Int32))), (Jvm.Cond.eq (Jvm.Term.elem (Jvm.Term.field (Jvm.Term.string "ContraryChairs$Academy" (126 : Nat)) "java/lang/String" "value" "[B") (Jvm.Term.int (2 : Int32))) (Jvm.Term.int (97 : Int32)))]
def zLit3 : List Cond := [(Jvm.Cond.eq (Jvm.Term.elem (Jvm.Term.field (Jvm.Term.string "ContraryChairs$Academy" (126 : Nat)) "java/lang/String" "value" "[B") (Jvm.Term.int (3 : Int32))) (Jvm.Term.int (105 : Int32))), (Jvm.Cond.eq (Jvm.Term.elem (Jvm.Term.field (Jvm.Term.string "ContraryChairs$Academy" (126 : Nat)) "java/lang/String" "value" "[B") (Jvm.Term.int (4 : Int32))) (Jvm.Term.int (114 : Int32))), (Jvm.Cond.eq (Jvm.Term.elem (Jvm.Term.field (Jvm.Term.string "ContraryChairs$Academy" (126 : Nat)) "java/lang/String" "value" "[B") (Jvm.Term.int (5 : Int32))) (Jvm.Term.int (115 : Int32))), (Jvm.Cond.not (Jvm.Cond.eq (Jvm.Term.string "ContraryChairs$Academy" (116 : Nat)) (Jvm.Term.string "ContraryChairs$Academy" (126 : Nat)))), (Jvm.Cond.not (Jvm.Cond.eq (Jvm.Term.string "ContraryChairs$Academy" (122 : Nat)) (Jvm.Term.string "ContraryChairs$Academy" (126 : Nat)))), (Jvm.Cond.not (Jvm.Cond.eq (Jvm.Term.string "ContraryChairs$Academy" (124 : Nat)) (Jvm.Term.string "ContraryChairs$Academy" (126 : Nat)))), (Jvm.Cond.exactly (Jvm.Term.string "ContraryChairs$Academy" (127 : Nat)) "java/lang/String"), (Jvm.Cond.eq (Jvm.Term.field (Jvm.Term.string "ContraryChairs$Academy" (127 : Nat)) "java/lang/String" "coder" "B") (Jvm.Term.int (0 : Int32))), (Jvm.Cond.arrayOf (Jvm.Term.field (Jvm.Term.string "ContraryChairs$Academy" (127 : Nat)) "java/lang/String" "value" "[B") Jvm.ClassFile.FieldType.byte), (Jvm.Cond.eq (Jvm.Term.length (Jvm.Term.field (Jvm.Term.string "ContraryChairs$Academy" (127 : Nat)) "java/lang/String" "value" "[B")) (Jvm.Term.int (4 : Int32))), (Jvm.Cond.eq (Jvm.Term.elem (Jvm.Term.field (Jvm.Term.string "ContraryChairs$Academy" (127 : Nat)) "java/lang/String" "value" "[B") (Jvm.Term.int (0 : Int32))) (Jvm.Term.int (100 : Int32))), (Jvm.Cond.eq (Jvm.Term.elem (Jvm.Term.field (Jvm.Term.string "ContraryChairs$Academy" (127 : Nat)) "java/lang/String" "value" "[B") (Jvm.Term.int (1 : Int32))) (Jvm.Term.int (105 : Int32))), (Jvm.Cond.eq (Jvm.Term.elem (Jvm.Term.field (Jvm.Term.string "ContraryChairs$Academy" (127 : Nat)) "java/lang/String" "value" "[B") (Jvm.Term.int (2 : Int32))) (Jvm.Term.int (101 : Int32))), (Jvm.Cond.eq (Jvm.Term.elem (Jvm.Term.field (Jvm.Term.string "ContraryChairs$Academy" (127 : Nat)) "java/lang/String" "value" "[B") (Jvm.Term.int (3 : Int32))) (Jvm.Term.int (115 : Int32))), (Jvm.Cond.not (Jvm.Cond.eq (Jvm.Term.string "ContraryChairs$Academy" (116 : Nat)) (Jvm.Term.string "ContraryChairs$Academy" (127 : Nat)))), (Jvm.Cond.not (Jvm.Cond.eq (Jvm.Term.string "ContraryChairs$Academy" (122 : Nat)) (Jvm.Term.string "ContraryChairs$Academy" (127 : Nat)))), (Jvm.Cond.not (Jvm.Cond.eq (Jvm.Term.string "ContraryChairs$Academy" (124 : Nat)) (Jvm.Term.string "ContraryChairs$Academy" (127 : Nat)))), (Jvm.Cond.not (Jvm.Cond.eq (Jvm.Term.string "ContraryChairs$Academy" (126 : Nat)) (Jvm.Term.string "ContraryChairs$Academy" (127 : Nat)))), (Jvm.Cond.exactly (Jvm.Term.string "ContraryChairs$Academy" (129 : Nat)) "java/lang/String"), (Jvm.Cond.eq (Jvm.Term.field (Jvm.Term.string "ContraryChairs$Academy" (129 : Nat)) "java/lang/String" "coder" "B") (Jvm.Term.int (0 : Int32))), (Jvm.Cond.arrayOf (Jvm.Term.field (Jvm.Term.string "ContraryChairs$Academy" (129 : Nat)) "java/lang/String" "value" "[B") Jvm.ClassFile.FieldType.byte), (Jvm.Cond.eq (Jvm.Term.length (Jvm.Term.field (Jvm.Term.string "ContraryChairs$Academy" (129 : Nat)) "java/lang/String" "value" "[B")) (Jvm.Term.int (6 : Int32))), (Jvm.Cond.eq (Jvm.Term.elem (Jvm.Term.field (Jvm.Term.string "ContraryChairs$Academy" (129 : Nat)) "java/lang/String" "value" "[B") (Jvm.Term.int (0 : Int32))) (Jvm.Term.int (112 : Int32))), (Jvm.Cond.eq (Jvm.Term.elem (Jvm.Term.field (Jvm.Term.string "ContraryChairs$Academy" (129 : Nat)) "java/lang/String" "value" "[B") (Jvm.Term.int (1 : Int32))) (Jvm.Term.int (114 : Int32)))]
def zLit4 : List Cond := [(Jvm.Cond.eq (Jvm.Term.elem (Jvm.Term.field (Jvm.Term.string "ContraryChairs$Academy" (129 : Nat)) "java/lang/String" "value" "[B") (Jvm.Term.int (2 : Int32))) (Jvm.Term.int (97 : Int32))), (Jvm.Cond.eq (Jvm.Term.elem (Jvm.Term.field (Jvm.Term.string "ContraryChairs$Academy" (129 : Nat)) "java/lang/String" "value" "[B") (Jvm.Term.int (3 : Int32))) (Jvm.Term.int (105 : Int32))), (Jvm.Cond.eq (Jvm.Term.elem (Jvm.Term.field (Jvm.Term.string "ContraryChairs$Academy" (129 : Nat)) "java/lang/String" "value" "[B") (Jvm.Term.int (4 : Int32))) (Jvm.Term.int (115 : Int32))), (Jvm.Cond.eq (Jvm.Term.elem (Jvm.Term.field (Jvm.Term.string "ContraryChairs$Academy" (129 : Nat)) "java/lang/String" "value" "[B") (Jvm.Term.int (5 : Int32))) (Jvm.Term.int (101 : Int32))), (Jvm.Cond.not (Jvm.Cond.eq (Jvm.Term.string "ContraryChairs$Academy" (116 : Nat)) (Jvm.Term.string "ContraryChairs$Academy" (129 : Nat)))), (Jvm.Cond.not (Jvm.Cond.eq (Jvm.Term.string "ContraryChairs$Academy" (122 : Nat)) (Jvm.Term.string "ContraryChairs$Academy" (129 : Nat)))), (Jvm.Cond.not (Jvm.Cond.eq (Jvm.Term.string "ContraryChairs$Academy" (124 : Nat)) (Jvm.Term.string "ContraryChairs$Academy" (129 : Nat)))), (Jvm.Cond.not (Jvm.Cond.eq (Jvm.Term.string "ContraryChairs$Academy" (126 : Nat)) (Jvm.Term.string "ContraryChairs$Academy" (129 : Nat)))), (Jvm.Cond.not (Jvm.Cond.eq (Jvm.Term.string "ContraryChairs$Academy" (127 : Nat)) (Jvm.Term.string "ContraryChairs$Academy" (129 : Nat)))), (Jvm.Cond.exactly (Jvm.Term.string "ContraryChairs$Law" (76 : Nat)) "java/lang/String"), (Jvm.Cond.eq (Jvm.Term.field (Jvm.Term.string "ContraryChairs$Law" (76 : Nat)) "java/lang/String" "coder" "B") (Jvm.Term.int (0 : Int32))), (Jvm.Cond.arrayOf (Jvm.Term.field (Jvm.Term.string "ContraryChairs$Law" (76 : Nat)) "java/lang/String" "value" "[B") Jvm.ClassFile.FieldType.byte), (Jvm.Cond.eq (Jvm.Term.length (Jvm.Term.field (Jvm.Term.string "ContraryChairs$Law" (76 : Nat)) "java/lang/String" "value" "[B")) (Jvm.Term.int (5 : Int32))), (Jvm.Cond.eq (Jvm.Term.elem (Jvm.Term.field (Jvm.Term.string "ContraryChairs$Law" (76 : Nat)) "java/lang/String" "value" "[B") (Jvm.Term.int (0 : Int32))) (Jvm.Term.int (108 : Int32))), (Jvm.Cond.eq (Jvm.Term.elem (Jvm.Term.field (Jvm.Term.string "ContraryChairs$Law" (76 : Nat)) "java/lang/String" "value" "[B") (Jvm.Term.int (1 : Int32))) (Jvm.Term.int (101 : Int32))), (Jvm.Cond.eq (Jvm.Term.elem (Jvm.Term.field (Jvm.Term.string "ContraryChairs$Law" (76 : Nat)) "java/lang/String" "value" "[B") (Jvm.Term.int (2 : Int32))) (Jvm.Term.int (97 : Int32))), (Jvm.Cond.eq (Jvm.Term.elem (Jvm.Term.field (Jvm.Term.string "ContraryChairs$Law" (76 : Nat)) "java/lang/String" "value" "[B") (Jvm.Term.int (3 : Int32))) (Jvm.Term.int (115 : Int32))), (Jvm.Cond.eq (Jvm.Term.elem (Jvm.Term.field (Jvm.Term.string "ContraryChairs$Law" (76 : Nat)) "java/lang/String" "value" "[B") (Jvm.Term.int (4 : Int32))) (Jvm.Term.int (116 : Int32))), (Jvm.Cond.not (Jvm.Cond.eq (Jvm.Term.string "ContraryChairs$Academy" (116 : Nat)) (Jvm.Term.string "ContraryChairs$Law" (76 : Nat)))), (Jvm.Cond.not (Jvm.Cond.eq (Jvm.Term.string "ContraryChairs$Academy" (122 : Nat)) (Jvm.Term.string "ContraryChairs$Law" (76 : Nat)))), (Jvm.Cond.not (Jvm.Cond.eq (Jvm.Term.string "ContraryChairs$Academy" (124 : Nat)) (Jvm.Term.string "ContraryChairs$Law" (76 : Nat)))), (Jvm.Cond.not (Jvm.Cond.eq (Jvm.Term.string "ContraryChairs$Academy" (126 : Nat)) (Jvm.Term.string "ContraryChairs$Law" (76 : Nat)))), (Jvm.Cond.not (Jvm.Cond.eq (Jvm.Term.string "ContraryChairs$Academy" (127 : Nat)) (Jvm.Term.string "ContraryChairs$Law" (76 : Nat)))), (Jvm.Cond.not (Jvm.Cond.eq (Jvm.Term.string "ContraryChairs$Academy" (129 : Nat)) (Jvm.Term.string "ContraryChairs$Law" (76 : Nat))))]
def zLit5 : List Cond := [(Jvm.Cond.exactly (Jvm.Term.string "ContraryChairs$Law" (85 : Nat)) "java/lang/String"), (Jvm.Cond.eq (Jvm.Term.field (Jvm.Term.string "ContraryChairs$Law" (85 : Nat)) "java/lang/String" "coder" "B") (Jvm.Term.int (0 : Int32))), (Jvm.Cond.arrayOf (Jvm.Term.field (Jvm.Term.string "ContraryChairs$Law" (85 : Nat)) "java/lang/String" "value" "[B") Jvm.ClassFile.FieldType.byte), (Jvm.Cond.eq (Jvm.Term.length (Jvm.Term.field (Jvm.Term.string "ContraryChairs$Law" (85 : Nat)) "java/lang/String" "value" "[B")) (Jvm.Term.int (4 : Int32))), (Jvm.Cond.eq (Jvm.Term.elem (Jvm.Term.field (Jvm.Term.string "ContraryChairs$Law" (85 : Nat)) "java/lang/String" "value" "[B") (Jvm.Term.int (0 : Int32))) (Jvm.Term.int (109 : Int32))), (Jvm.Cond.eq (Jvm.Term.elem (Jvm.Term.field (Jvm.Term.string "ContraryChairs$Law" (85 : Nat)) "java/lang/String" "value" "[B") (Jvm.Term.int (1 : Int32))) (Jvm.Term.int (111 : Int32))), (Jvm.Cond.eq (Jvm.Term.elem (Jvm.Term.field (Jvm.Term.string "ContraryChairs$Law" (85 : Nat)) "java/lang/String" "value" "[B") (Jvm.Term.int (2 : Int32))) (Jvm.Term.int (115 : Int32))), (Jvm.Cond.eq (Jvm.Term.elem (Jvm.Term.field (Jvm.Term.string "ContraryChairs$Law" (85 : Nat)) "java/lang/String" "value" "[B") (Jvm.Term.int (3 : Int32))) (Jvm.Term.int (116 : Int32))), (Jvm.Cond.not (Jvm.Cond.eq (Jvm.Term.string "ContraryChairs$Academy" (116 : Nat)) (Jvm.Term.string "ContraryChairs$Law" (85 : Nat)))), (Jvm.Cond.not (Jvm.Cond.eq (Jvm.Term.string "ContraryChairs$Academy" (122 : Nat)) (Jvm.Term.string "ContraryChairs$Law" (85 : Nat)))), (Jvm.Cond.not (Jvm.Cond.eq (Jvm.Term.string "ContraryChairs$Academy" (124 : Nat)) (Jvm.Term.string "ContraryChairs$Law" (85 : Nat)))), (Jvm.Cond.not (Jvm.Cond.eq (Jvm.Term.string "ContraryChairs$Academy" (126 : Nat)) (Jvm.Term.string "ContraryChairs$Law" (85 : Nat)))), (Jvm.Cond.not (Jvm.Cond.eq (Jvm.Term.string "ContraryChairs$Academy" (127 : Nat)) (Jvm.Term.string "ContraryChairs$Law" (85 : Nat)))), (Jvm.Cond.not (Jvm.Cond.eq (Jvm.Term.string "ContraryChairs$Academy" (129 : Nat)) (Jvm.Term.string "ContraryChairs$Law" (85 : Nat)))), (Jvm.Cond.not (Jvm.Cond.eq (Jvm.Term.string "ContraryChairs$Law" (76 : Nat)) (Jvm.Term.string "ContraryChairs$Law" (85 : Nat)))), (Jvm.Cond.exactly (Jvm.Term.string "ContraryChairs$Law" (99 : Nat)) "java/lang/String"), (Jvm.Cond.eq (Jvm.Term.field (Jvm.Term.string "ContraryChairs$Law" (99 : Nat)) "java/lang/String" "coder" "B") (Jvm.Term.int (0 : Int32))), (Jvm.Cond.arrayOf (Jvm.Term.field (Jvm.Term.string "ContraryChairs$Law" (99 : Nat)) "java/lang/String" "value" "[B") Jvm.ClassFile.FieldType.byte), (Jvm.Cond.eq (Jvm.Term.length (Jvm.Term.field (Jvm.Term.string "ContraryChairs$Law" (99 : Nat)) "java/lang/String" "value" "[B")) (Jvm.Term.int (7 : Int32))), (Jvm.Cond.eq (Jvm.Term.elem (Jvm.Term.field (Jvm.Term.string "ContraryChairs$Law" (99 : Nat)) "java/lang/String" "value" "[B") (Jvm.Term.int (0 : Int32))) (Jvm.Term.int (100 : Int32))), (Jvm.Cond.eq (Jvm.Term.elem (Jvm.Term.field (Jvm.Term.string "ContraryChairs$Law" (99 : Nat)) "java/lang/String" "value" "[B") (Jvm.Term.int (1 : Int32))) (Jvm.Term.int (105 : Int32))), (Jvm.Cond.eq (Jvm.Term.elem (Jvm.Term.field (Jvm.Term.string "ContraryChairs$Law" (99 : Nat)) "java/lang/String" "value" "[B") (Jvm.Term.int (2 : Int32))) (Jvm.Term.int (102 : Int32))), (Jvm.Cond.eq (Jvm.Term.elem (Jvm.Term.field (Jvm.Term.string "ContraryChairs$Law" (99 : Nat)) "java/lang/String" "value" "[B") (Jvm.Term.int (3 : Int32))) (Jvm.Term.int (102 : Int32))), (Jvm.Cond.eq (Jvm.Term.elem (Jvm.Term.field (Jvm.Term.string "ContraryChairs$Law" (99 : Nat)) "java/lang/String" "value" "[B") (Jvm.Term.int (4 : Int32))) (Jvm.Term.int (101 : Int32)))]
def zLit6 : List Cond := [(Jvm.Cond.eq (Jvm.Term.elem (Jvm.Term.field (Jvm.Term.string "ContraryChairs$Law" (99 : Nat)) "java/lang/String" "value" "[B") (Jvm.Term.int (5 : Int32))) (Jvm.Term.int (114 : Int32))), (Jvm.Cond.eq (Jvm.Term.elem (Jvm.Term.field (Jvm.Term.string "ContraryChairs$Law" (99 : Nat)) "java/lang/String" "value" "[B") (Jvm.Term.int (6 : Int32))) (Jvm.Term.int (115 : Int32))), (Jvm.Cond.not (Jvm.Cond.eq (Jvm.Term.string "ContraryChairs$Academy" (116 : Nat)) (Jvm.Term.string "ContraryChairs$Law" (99 : Nat)))), (Jvm.Cond.not (Jvm.Cond.eq (Jvm.Term.string "ContraryChairs$Academy" (122 : Nat)) (Jvm.Term.string "ContraryChairs$Law" (99 : Nat)))), (Jvm.Cond.not (Jvm.Cond.eq (Jvm.Term.string "ContraryChairs$Academy" (124 : Nat)) (Jvm.Term.string "ContraryChairs$Law" (99 : Nat)))), (Jvm.Cond.not (Jvm.Cond.eq (Jvm.Term.string "ContraryChairs$Academy" (126 : Nat)) (Jvm.Term.string "ContraryChairs$Law" (99 : Nat)))), (Jvm.Cond.not (Jvm.Cond.eq (Jvm.Term.string "ContraryChairs$Academy" (127 : Nat)) (Jvm.Term.string "ContraryChairs$Law" (99 : Nat)))), (Jvm.Cond.not (Jvm.Cond.eq (Jvm.Term.string "ContraryChairs$Academy" (129 : Nat)) (Jvm.Term.string "ContraryChairs$Law" (99 : Nat)))), (Jvm.Cond.not (Jvm.Cond.eq (Jvm.Term.string "ContraryChairs$Law" (76 : Nat)) (Jvm.Term.string "ContraryChairs$Law" (99 : Nat)))), (Jvm.Cond.not (Jvm.Cond.eq (Jvm.Term.string "ContraryChairs$Law" (85 : Nat)) (Jvm.Term.string "ContraryChairs$Law" (99 : Nat)))), (Jvm.Cond.exactly (Jvm.Term.string "ContraryChairs$Law" (101 : Nat)) "java/lang/String"), (Jvm.Cond.eq (Jvm.Term.field (Jvm.Term.string "ContraryChairs$Law" (101 : Nat)) "java/lang/String" "coder" "B") (Jvm.Term.int (0 : Int32))), (Jvm.Cond.arrayOf (Jvm.Term.field (Jvm.Term.string "ContraryChairs$Law" (101 : Nat)) "java/lang/String" "value" "[B") Jvm.ClassFile.FieldType.byte), (Jvm.Cond.eq (Jvm.Term.length (Jvm.Term.field (Jvm.Term.string "ContraryChairs$Law" (101 : Nat)) "java/lang/String" "value" "[B")) (Jvm.Term.int (6 : Int32))), (Jvm.Cond.eq (Jvm.Term.elem (Jvm.Term.field (Jvm.Term.string "ContraryChairs$Law" (101 : Nat)) "java/lang/String" "value" "[B") (Jvm.Term.int (0 : Int32))) (Jvm.Term.int (97 : Int32))), (Jvm.Cond.eq (Jvm.Term.elem (Jvm.Term.field (Jvm.Term.string "ContraryChairs$Law" (101 : Nat)) "java/lang/String" "value" "[B") (Jvm.Term.int (1 : Int32))) (Jvm.Term.int (103 : Int32))), (Jvm.Cond.eq (Jvm.Term.elem (Jvm.Term.field (Jvm.Term.string "ContraryChairs$Law" (101 : Nat)) "java/lang/String" "value" "[B") (Jvm.Term.int (2 : Int32))) (Jvm.Term.int (114 : Int32))), (Jvm.Cond.eq (Jvm.Term.elem (Jvm.Term.field (Jvm.Term.string "ContraryChairs$Law" (101 : Nat)) "java/lang/String" "value" "[B") (Jvm.Term.int (3 : Int32))) (Jvm.Term.int (101 : Int32))), (Jvm.Cond.eq (Jvm.Term.elem (Jvm.Term.field (Jvm.Term.string "ContraryChairs$Law" (101 : Nat)) "java/lang/String" "value" "[B") (Jvm.Term.int (4 : Int32))) (Jvm.Term.int (101 : Int32))), (Jvm.Cond.eq (Jvm.Term.elem (Jvm.Term.field (Jvm.Term.string "ContraryChairs$Law" (101 : Nat)) "java/lang/String" "value" "[B") (Jvm.Term.int (5 : Int32))) (Jvm.Term.int (115 : Int32))), (Jvm.Cond.not (Jvm.Cond.eq (Jvm.Term.string "ContraryChairs$Academy" (116 : Nat)) (Jvm.Term.string "ContraryChairs$Law" (101 : Nat)))), (Jvm.Cond.not (Jvm.Cond.eq (Jvm.Term.string "ContraryChairs$Academy" (122 : Nat)) (Jvm.Term.string "ContraryChairs$Law" (101 : Nat)))), (Jvm.Cond.not (Jvm.Cond.eq (Jvm.Term.string "ContraryChairs$Academy" (124 : Nat)) (Jvm.Term.string "ContraryChairs$Law" (101 : Nat)))), (Jvm.Cond.not (Jvm.Cond.eq (Jvm.Term.string "ContraryChairs$Academy" (126 : Nat)) (Jvm.Term.string "ContraryChairs$Law" (101 : Nat))))]
def zLit7 : List Cond := [(Jvm.Cond.not (Jvm.Cond.eq (Jvm.Term.string "ContraryChairs$Academy" (127 : Nat)) (Jvm.Term.string "ContraryChairs$Law" (101 : Nat)))), (Jvm.Cond.not (Jvm.Cond.eq (Jvm.Term.string "ContraryChairs$Academy" (129 : Nat)) (Jvm.Term.string "ContraryChairs$Law" (101 : Nat)))), (Jvm.Cond.not (Jvm.Cond.eq (Jvm.Term.string "ContraryChairs$Law" (76 : Nat)) (Jvm.Term.string "ContraryChairs$Law" (101 : Nat)))), (Jvm.Cond.not (Jvm.Cond.eq (Jvm.Term.string "ContraryChairs$Law" (85 : Nat)) (Jvm.Term.string "ContraryChairs$Law" (101 : Nat)))), (Jvm.Cond.not (Jvm.Cond.eq (Jvm.Term.string "ContraryChairs$Law" (99 : Nat)) (Jvm.Term.string "ContraryChairs$Law" (101 : Nat)))), (Jvm.Cond.exactly (Jvm.Term.string "ContraryChairs$Law" (103 : Nat)) "java/lang/String"), (Jvm.Cond.eq (Jvm.Term.field (Jvm.Term.string "ContraryChairs$Law" (103 : Nat)) "java/lang/String" "coder" "B") (Jvm.Term.int (0 : Int32))), (Jvm.Cond.arrayOf (Jvm.Term.field (Jvm.Term.string "ContraryChairs$Law" (103 : Nat)) "java/lang/String" "value" "[B") Jvm.ClassFile.FieldType.byte), (Jvm.Cond.eq (Jvm.Term.length (Jvm.Term.field (Jvm.Term.string "ContraryChairs$Law" (103 : Nat)) "java/lang/String" "value" "[B")) (Jvm.Term.int (5 : Int32))), (Jvm.Cond.eq (Jvm.Term.elem (Jvm.Term.field (Jvm.Term.string "ContraryChairs$Law" (103 : Nat)) "java/lang/String" "value" "[B") (Jvm.Term.int (0 : Int32))) (Jvm.Term.int (119 : Int32))), (Jvm.Cond.eq (Jvm.Term.elem (Jvm.Term.field (Jvm.Term.string "ContraryChairs$Law" (103 : Nat)) "java/lang/String" "value" "[B") (Jvm.Term.int (1 : Int32))) (Jvm.Term.int (97 : Int32))), (Jvm.Cond.eq (Jvm.Term.elem (Jvm.Term.field (Jvm.Term.string "ContraryChairs$Law" (103 : Nat)) "java/lang/String" "value" "[B") (Jvm.Term.int (2 : Int32))) (Jvm.Term.int (105 : Int32))), (Jvm.Cond.eq (Jvm.Term.elem (Jvm.Term.field (Jvm.Term.string "ContraryChairs$Law" (103 : Nat)) "java/lang/String" "value" "[B") (Jvm.Term.int (3 : Int32))) (Jvm.Term.int (116 : Int32))), (Jvm.Cond.eq (Jvm.Term.elem (Jvm.Term.field (Jvm.Term.string "ContraryChairs$Law" (103 : Nat)) "java/lang/String" "value" "[B") (Jvm.Term.int (4 : Int32))) (Jvm.Term.int (115 : Int32))), (Jvm.Cond.not (Jvm.Cond.eq (Jvm.Term.string "ContraryChairs$Academy" (116 : Nat)) (Jvm.Term.string "ContraryChairs$Law" (103 : Nat)))), (Jvm.Cond.not (Jvm.Cond.eq (Jvm.Term.string "ContraryChairs$Academy" (122 : Nat)) (Jvm.Term.string "ContraryChairs$Law" (103 : Nat)))), (Jvm.Cond.not (Jvm.Cond.eq (Jvm.Term.string "ContraryChairs$Academy" (124 : Nat)) (Jvm.Term.string "ContraryChairs$Law" (103 : Nat)))), (Jvm.Cond.not (Jvm.Cond.eq (Jvm.Term.string "ContraryChairs$Academy" (126 : Nat)) (Jvm.Term.string "ContraryChairs$Law" (103 : Nat)))), (Jvm.Cond.not (Jvm.Cond.eq (Jvm.Term.string "ContraryChairs$Academy" (127 : Nat)) (Jvm.Term.string "ContraryChairs$Law" (103 : Nat)))), (Jvm.Cond.not (Jvm.Cond.eq (Jvm.Term.string "ContraryChairs$Academy" (129 : Nat)) (Jvm.Term.string "ContraryChairs$Law" (103 : Nat)))), (Jvm.Cond.not (Jvm.Cond.eq (Jvm.Term.string "ContraryChairs$Law" (76 : Nat)) (Jvm.Term.string "ContraryChairs$Law" (103 : Nat)))), (Jvm.Cond.not (Jvm.Cond.eq (Jvm.Term.string "ContraryChairs$Law" (85 : Nat)) (Jvm.Term.string "ContraryChairs$Law" (103 : Nat)))), (Jvm.Cond.not (Jvm.Cond.eq (Jvm.Term.string "ContraryChairs$Law" (99 : Nat)) (Jvm.Term.string "ContraryChairs$Law" (103 : Nat)))), (Jvm.Cond.not (Jvm.Cond.eq (Jvm.Term.string "ContraryChairs$Law" (101 : Nat)) (Jvm.Term.string "ContraryChairs$Law" (103 : Nat))))]
def zLit8 : List Cond := [(Jvm.Cond.exactly (Jvm.Term.string "ContraryChairs$Law" (105 : Nat)) "java/lang/String"), (Jvm.Cond.eq (Jvm.Term.field (Jvm.Term.string "ContraryChairs$Law" (105 : Nat)) "java/lang/String" "coder" "B") (Jvm.Term.int (0 : Int32))), (Jvm.Cond.arrayOf (Jvm.Term.field (Jvm.Term.string "ContraryChairs$Law" (105 : Nat)) "java/lang/String" "value" "[B") Jvm.ClassFile.FieldType.byte), (Jvm.Cond.eq (Jvm.Term.length (Jvm.Term.field (Jvm.Term.string "ContraryChairs$Law" (105 : Nat)) "java/lang/String" "value" "[B")) (Jvm.Term.int (3 : Int32))), (Jvm.Cond.eq (Jvm.Term.elem (Jvm.Term.field (Jvm.Term.string "ContraryChairs$Law" (105 : Nat)) "java/lang/String" "value" "[B") (Jvm.Term.int (0 : Int32))) (Jvm.Term.int (97 : Int32))), (Jvm.Cond.eq (Jvm.Term.elem (Jvm.Term.field (Jvm.Term.string "ContraryChairs$Law" (105 : Nat)) "java/lang/String" "value" "[B") (Jvm.Term.int (1 : Int32))) (Jvm.Term.int (103 : Int32))), (Jvm.Cond.eq (Jvm.Term.elem (Jvm.Term.field (Jvm.Term.string "ContraryChairs$Law" (105 : Nat)) "java/lang/String" "value" "[B") (Jvm.Term.int (2 : Int32))) (Jvm.Term.int (101 : Int32))), (Jvm.Cond.not (Jvm.Cond.eq (Jvm.Term.string "ContraryChairs$Academy" (116 : Nat)) (Jvm.Term.string "ContraryChairs$Law" (105 : Nat)))), (Jvm.Cond.not (Jvm.Cond.eq (Jvm.Term.string "ContraryChairs$Academy" (122 : Nat)) (Jvm.Term.string "ContraryChairs$Law" (105 : Nat)))), (Jvm.Cond.not (Jvm.Cond.eq (Jvm.Term.string "ContraryChairs$Academy" (124 : Nat)) (Jvm.Term.string "ContraryChairs$Law" (105 : Nat)))), (Jvm.Cond.not (Jvm.Cond.eq (Jvm.Term.string "ContraryChairs$Academy" (126 : Nat)) (Jvm.Term.string "ContraryChairs$Law" (105 : Nat)))), (Jvm.Cond.not (Jvm.Cond.eq (Jvm.Term.string "ContraryChairs$Academy" (127 : Nat)) (Jvm.Term.string "ContraryChairs$Law" (105 : Nat)))), (Jvm.Cond.not (Jvm.Cond.eq (Jvm.Term.string "ContraryChairs$Academy" (129 : Nat)) (Jvm.Term.string "ContraryChairs$Law" (105 : Nat)))), (Jvm.Cond.not (Jvm.Cond.eq (Jvm.Term.string "ContraryChairs$Law" (76 : Nat)) (Jvm.Term.string "ContraryChairs$Law" (105 : Nat)))), (Jvm.Cond.not (Jvm.Cond.eq (Jvm.Term.string "ContraryChairs$Law" (85 : Nat)) (Jvm.Term.string "ContraryChairs$Law" (105 : Nat)))), (Jvm.Cond.not (Jvm.Cond.eq (Jvm.Term.string "ContraryChairs$Law" (99 : Nat)) (Jvm.Term.string "ContraryChairs$Law" (105 : Nat)))), (Jvm.Cond.not (Jvm.Cond.eq (Jvm.Term.string "ContraryChairs$Law" (101 : Nat)) (Jvm.Term.string "ContraryChairs$Law" (105 : Nat)))), (Jvm.Cond.not (Jvm.Cond.eq (Jvm.Term.string "ContraryChairs$Law" (103 : Nat)) (Jvm.Term.string "ContraryChairs$Law" (105 : Nat)))), (Jvm.Cond.exactly (Jvm.Term.string "ContraryChairs$Law" (107 : Nat)) "java/lang/String"), (Jvm.Cond.eq (Jvm.Term.field (Jvm.Term.string "ContraryChairs$Law" (107 : Nat)) "java/lang/String" "coder" "B") (Jvm.Term.int (0 : Int32))), (Jvm.Cond.arrayOf (Jvm.Term.field (Jvm.Term.string "ContraryChairs$Law" (107 : Nat)) "java/lang/String" "value" "[B") Jvm.ClassFile.FieldType.byte), (Jvm.Cond.eq (Jvm.Term.length (Jvm.Term.field (Jvm.Term.string "ContraryChairs$Law" (107 : Nat)) "java/lang/String" "value" "[B")) (Jvm.Term.int (6 : Int32))), (Jvm.Cond.eq (Jvm.Term.elem (Jvm.Term.field (Jvm.Term.string "ContraryChairs$Law" (107 : Nat)) "java/lang/String" "value" "[B") (Jvm.Term.int (0 : Int32))) (Jvm.Term.int (110 : Int32))), (Jvm.Cond.eq (Jvm.Term.elem (Jvm.Term.field (Jvm.Term.string "ContraryChairs$Law" (107 : Nat)) "java/lang/String" "value" "[B") (Jvm.Term.int (1 : Int32))) (Jvm.Term.int (117 : Int32)))]
def zLit9 : List Cond := [(Jvm.Cond.eq (Jvm.Term.elem (Jvm.Term.field (Jvm.Term.string "ContraryChairs$Law" (107 : Nat)) "java/lang/String" "value" "[B") (Jvm.Term.int (2 : Int32))) (Jvm.Term.int (109 : Int32))), (Jvm.Cond.eq (Jvm.Term.elem (Jvm.Term.field (Jvm.Term.string "ContraryChairs$Law" (107 : Nat)) "java/lang/String" "value" "[B") (Jvm.Term.int (3 : Int32))) (Jvm.Term.int (98 : Int32))), (Jvm.Cond.eq (Jvm.Term.elem (Jvm.Term.field (Jvm.Term.string "ContraryChairs$Law" (107 : Nat)) "java/lang/String" "value" "[B") (Jvm.Term.int (4 : Int32))) (Jvm.Term.int (101 : Int32))), (Jvm.Cond.eq (Jvm.Term.elem (Jvm.Term.field (Jvm.Term.string "ContraryChairs$Law" (107 : Nat)) "java/lang/String" "value" "[B") (Jvm.Term.int (5 : Int32))) (Jvm.Term.int (114 : Int32))), (Jvm.Cond.not (Jvm.Cond.eq (Jvm.Term.string "ContraryChairs$Academy" (116 : Nat)) (Jvm.Term.string "ContraryChairs$Law" (107 : Nat)))), (Jvm.Cond.not (Jvm.Cond.eq (Jvm.Term.string "ContraryChairs$Academy" (122 : Nat)) (Jvm.Term.string "ContraryChairs$Law" (107 : Nat)))), (Jvm.Cond.not (Jvm.Cond.eq (Jvm.Term.string "ContraryChairs$Academy" (124 : Nat)) (Jvm.Term.string "ContraryChairs$Law" (107 : Nat)))), (Jvm.Cond.not (Jvm.Cond.eq (Jvm.Term.string "ContraryChairs$Academy" (126 : Nat)) (Jvm.Term.string "ContraryChairs$Law" (107 : Nat)))), (Jvm.Cond.not (Jvm.Cond.eq (Jvm.Term.string "ContraryChairs$Academy" (127 : Nat)) (Jvm.Term.string "ContraryChairs$Law" (107 : Nat)))), (Jvm.Cond.not (Jvm.Cond.eq (Jvm.Term.string "ContraryChairs$Academy" (129 : Nat)) (Jvm.Term.string "ContraryChairs$Law" (107 : Nat)))), (Jvm.Cond.not (Jvm.Cond.eq (Jvm.Term.string "ContraryChairs$Law" (76 : Nat)) (Jvm.Term.string "ContraryChairs$Law" (107 : Nat)))), (Jvm.Cond.not (Jvm.Cond.eq (Jvm.Term.string "ContraryChairs$Law" (85 : Nat)) (Jvm.Term.string "ContraryChairs$Law" (107 : Nat)))), (Jvm.Cond.not (Jvm.Cond.eq (Jvm.Term.string "ContraryChairs$Law" (99 : Nat)) (Jvm.Term.string "ContraryChairs$Law" (107 : Nat)))), (Jvm.Cond.not (Jvm.Cond.eq (Jvm.Term.string "ContraryChairs$Law" (101 : Nat)) (Jvm.Term.string "ContraryChairs$Law" (107 : Nat)))), (Jvm.Cond.not (Jvm.Cond.eq (Jvm.Term.string "ContraryChairs$Law" (103 : Nat)) (Jvm.Term.string "ContraryChairs$Law" (107 : Nat)))), (Jvm.Cond.not (Jvm.Cond.eq (Jvm.Term.string "ContraryChairs$Law" (105 : Nat)) (Jvm.Term.string "ContraryChairs$Law" (107 : Nat)))), (Jvm.Cond.exactly (Jvm.Term.string "ContraryChairs$Law" (108 : Nat)) "java/lang/String"), (Jvm.Cond.eq (Jvm.Term.field (Jvm.Term.string "ContraryChairs$Law" (108 : Nat)) "java/lang/String" "coder" "B") (Jvm.Term.int (0 : Int32))), (Jvm.Cond.arrayOf (Jvm.Term.field (Jvm.Term.string "ContraryChairs$Law" (108 : Nat)) "java/lang/String" "value" "[B") Jvm.ClassFile.FieldType.byte), (Jvm.Cond.eq (Jvm.Term.length (Jvm.Term.field (Jvm.Term.string "ContraryChairs$Law" (108 : Nat)) "java/lang/String" "value" "[B")) (Jvm.Term.int (4 : Int32))), (Jvm.Cond.eq (Jvm.Term.elem (Jvm.Term.field (Jvm.Term.string "ContraryChairs$Law" (108 : Nat)) "java/lang/String" "value" "[B") (Jvm.Term.int (0 : Int32))) (Jvm.Term.int (121 : Int32))), (Jvm.Cond.eq (Jvm.Term.elem (Jvm.Term.field (Jvm.Term.string "ContraryChairs$Law" (108 : Nat)) "java/lang/String" "value" "[B") (Jvm.Term.int (1 : Int32))) (Jvm.Term.int (101 : Int32))), (Jvm.Cond.eq (Jvm.Term.elem (Jvm.Term.field (Jvm.Term.string "ContraryChairs$Law" (108 : Nat)) "java/lang/String" "value" "[B") (Jvm.Term.int (2 : Int32))) (Jvm.Term.int (97 : Int32))), (Jvm.Cond.eq (Jvm.Term.elem (Jvm.Term.field (Jvm.Term.string "ContraryChairs$Law" (108 : Nat)) "java/lang/String" "value" "[B") (Jvm.Term.int (3 : Int32))) (Jvm.Term.int (114 : Int32)))]
def zLit10 : List Cond := [(Jvm.Cond.not (Jvm.Cond.eq (Jvm.Term.string "ContraryChairs$Academy" (116 : Nat)) (Jvm.Term.string "ContraryChairs$Law" (108 : Nat)))), (Jvm.Cond.not (Jvm.Cond.eq (Jvm.Term.string "ContraryChairs$Academy" (122 : Nat)) (Jvm.Term.string "ContraryChairs$Law" (108 : Nat)))), (Jvm.Cond.not (Jvm.Cond.eq (Jvm.Term.string "ContraryChairs$Academy" (124 : Nat)) (Jvm.Term.string "ContraryChairs$Law" (108 : Nat)))), (Jvm.Cond.not (Jvm.Cond.eq (Jvm.Term.string "ContraryChairs$Academy" (126 : Nat)) (Jvm.Term.string "ContraryChairs$Law" (108 : Nat)))), (Jvm.Cond.not (Jvm.Cond.eq (Jvm.Term.string "ContraryChairs$Academy" (127 : Nat)) (Jvm.Term.string "ContraryChairs$Law" (108 : Nat)))), (Jvm.Cond.not (Jvm.Cond.eq (Jvm.Term.string "ContraryChairs$Academy" (129 : Nat)) (Jvm.Term.string "ContraryChairs$Law" (108 : Nat)))), (Jvm.Cond.not (Jvm.Cond.eq (Jvm.Term.string "ContraryChairs$Law" (76 : Nat)) (Jvm.Term.string "ContraryChairs$Law" (108 : Nat)))), (Jvm.Cond.not (Jvm.Cond.eq (Jvm.Term.string "ContraryChairs$Law" (85 : Nat)) (Jvm.Term.string "ContraryChairs$Law" (108 : Nat)))), (Jvm.Cond.not (Jvm.Cond.eq (Jvm.Term.string "ContraryChairs$Law" (99 : Nat)) (Jvm.Term.string "ContraryChairs$Law" (108 : Nat)))), (Jvm.Cond.not (Jvm.Cond.eq (Jvm.Term.string "ContraryChairs$Law" (101 : Nat)) (Jvm.Term.string "ContraryChairs$Law" (108 : Nat)))), (Jvm.Cond.not (Jvm.Cond.eq (Jvm.Term.string "ContraryChairs$Law" (103 : Nat)) (Jvm.Term.string "ContraryChairs$Law" (108 : Nat)))), (Jvm.Cond.not (Jvm.Cond.eq (Jvm.Term.string "ContraryChairs$Law" (105 : Nat)) (Jvm.Term.string "ContraryChairs$Law" (108 : Nat)))), (Jvm.Cond.not (Jvm.Cond.eq (Jvm.Term.string "ContraryChairs$Law" (107 : Nat)) (Jvm.Term.string "ContraryChairs$Law" (108 : Nat)))), (Jvm.Cond.exactly (Jvm.Term.string "ContraryChairs$Law" (110 : Nat)) "java/lang/String"), (Jvm.Cond.eq (Jvm.Term.field (Jvm.Term.string "ContraryChairs$Law" (110 : Nat)) "java/lang/String" "coder" "B") (Jvm.Term.int (0 : Int32))), (Jvm.Cond.arrayOf (Jvm.Term.field (Jvm.Term.string "ContraryChairs$Law" (110 : Nat)) "java/lang/String" "value" "[B") Jvm.ClassFile.FieldType.byte), (Jvm.Cond.eq (Jvm.Term.length (Jvm.Term.field (Jvm.Term.string "ContraryChairs$Law" (110 : Nat)) "java/lang/String" "value" "[B")) (Jvm.Term.int (3 : Int32))), (Jvm.Cond.eq (Jvm.Term.elem (Jvm.Term.field (Jvm.Term.string "ContraryChairs$Law" (110 : Nat)) "java/lang/String" "value" "[B") (Jvm.Term.int (0 : Int32))) (Jvm.Term.int (115 : Int32))), (Jvm.Cond.eq (Jvm.Term.elem (Jvm.Term.field (Jvm.Term.string "ContraryChairs$Law" (110 : Nat)) "java/lang/String" "value" "[B") (Jvm.Term.int (1 : Int32))) (Jvm.Term.int (97 : Int32))), (Jvm.Cond.eq (Jvm.Term.elem (Jvm.Term.field (Jvm.Term.string "ContraryChairs$Law" (110 : Nat)) "java/lang/String" "value" "[B") (Jvm.Term.int (2 : Int32))) (Jvm.Term.int (116 : Int32))), (Jvm.Cond.not (Jvm.Cond.eq (Jvm.Term.string "ContraryChairs$Academy" (116 : Nat)) (Jvm.Term.string "ContraryChairs$Law" (110 : Nat)))), (Jvm.Cond.not (Jvm.Cond.eq (Jvm.Term.string "ContraryChairs$Academy" (122 : Nat)) (Jvm.Term.string "ContraryChairs$Law" (110 : Nat)))), (Jvm.Cond.not (Jvm.Cond.eq (Jvm.Term.string "ContraryChairs$Academy" (124 : Nat)) (Jvm.Term.string "ContraryChairs$Law" (110 : Nat)))), (Jvm.Cond.not (Jvm.Cond.eq (Jvm.Term.string "ContraryChairs$Academy" (126 : Nat)) (Jvm.Term.string "ContraryChairs$Law" (110 : Nat))))]
def zLit11 : List Cond := [(Jvm.Cond.not (Jvm.Cond.eq (Jvm.Term.string "ContraryChairs$Academy" (127 : Nat)) (Jvm.Term.string "ContraryChairs$Law" (110 : Nat)))), (Jvm.Cond.not (Jvm.Cond.eq (Jvm.Term.string "ContraryChairs$Academy" (129 : Nat)) (Jvm.Term.string "ContraryChairs$Law" (110 : Nat)))), (Jvm.Cond.not (Jvm.Cond.eq (Jvm.Term.string "ContraryChairs$Law" (76 : Nat)) (Jvm.Term.string "ContraryChairs$Law" (110 : Nat)))), (Jvm.Cond.not (Jvm.Cond.eq (Jvm.Term.string "ContraryChairs$Law" (85 : Nat)) (Jvm.Term.string "ContraryChairs$Law" (110 : Nat)))), (Jvm.Cond.not (Jvm.Cond.eq (Jvm.Term.string "ContraryChairs$Law" (99 : Nat)) (Jvm.Term.string "ContraryChairs$Law" (110 : Nat)))), (Jvm.Cond.not (Jvm.Cond.eq (Jvm.Term.string "ContraryChairs$Law" (101 : Nat)) (Jvm.Term.string "ContraryChairs$Law" (110 : Nat)))), (Jvm.Cond.not (Jvm.Cond.eq (Jvm.Term.string "ContraryChairs$Law" (103 : Nat)) (Jvm.Term.string "ContraryChairs$Law" (110 : Nat)))), (Jvm.Cond.not (Jvm.Cond.eq (Jvm.Term.string "ContraryChairs$Law" (105 : Nat)) (Jvm.Term.string "ContraryChairs$Law" (110 : Nat)))), (Jvm.Cond.not (Jvm.Cond.eq (Jvm.Term.string "ContraryChairs$Law" (107 : Nat)) (Jvm.Term.string "ContraryChairs$Law" (110 : Nat)))), (Jvm.Cond.not (Jvm.Cond.eq (Jvm.Term.string "ContraryChairs$Law" (108 : Nat)) (Jvm.Term.string "ContraryChairs$Law" (110 : Nat)))), (Jvm.Cond.exactly (Jvm.Term.string "ContraryChairs$Book" (53 : Nat)) "java/lang/String"), (Jvm.Cond.eq (Jvm.Term.field (Jvm.Term.string "ContraryChairs$Book" (53 : Nat)) "java/lang/String" "coder" "B") (Jvm.Term.int (0 : Int32))), (Jvm.Cond.arrayOf (Jvm.Term.field (Jvm.Term.string "ContraryChairs$Book" (53 : Nat)) "java/lang/String" "value" "[B") Jvm.ClassFile.FieldType.byte), (Jvm.Cond.eq (Jvm.Term.length (Jvm.Term.field (Jvm.Term.string "ContraryChairs$Book" (53 : Nat)) "java/lang/String" "value" "[B")) (Jvm.Term.int (4 : Int32))), (Jvm.Cond.eq (Jvm.Term.elem (Jvm.Term.field (Jvm.Term.string "ContraryChairs$Book" (53 : Nat)) "java/lang/String" "value" "[B") (Jvm.Term.int (0 : Int32))) (Jvm.Term.int (118 : Int32))), (Jvm.Cond.eq (Jvm.Term.elem (Jvm.Term.field (Jvm.Term.string "ContraryChairs$Book" (53 : Nat)) "java/lang/String" "value" "[B") (Jvm.Term.int (1 : Int32))) (Jvm.Term.int (111 : Int32))), (Jvm.Cond.eq (Jvm.Term.elem (Jvm.Term.field (Jvm.Term.string "ContraryChairs$Book" (53 : Nat)) "java/lang/String" "value" "[B") (Jvm.Term.int (2 : Int32))) (Jvm.Term.int (105 : Int32))), (Jvm.Cond.eq (Jvm.Term.elem (Jvm.Term.field (Jvm.Term.string "ContraryChairs$Book" (53 : Nat)) "java/lang/String" "value" "[B") (Jvm.Term.int (3 : Int32))) (Jvm.Term.int (100 : Int32))), (Jvm.Cond.not (Jvm.Cond.eq (Jvm.Term.string "ContraryChairs$Academy" (116 : Nat)) (Jvm.Term.string "ContraryChairs$Book" (53 : Nat)))), (Jvm.Cond.not (Jvm.Cond.eq (Jvm.Term.string "ContraryChairs$Academy" (122 : Nat)) (Jvm.Term.string "ContraryChairs$Book" (53 : Nat)))), (Jvm.Cond.not (Jvm.Cond.eq (Jvm.Term.string "ContraryChairs$Academy" (124 : Nat)) (Jvm.Term.string "ContraryChairs$Book" (53 : Nat)))), (Jvm.Cond.not (Jvm.Cond.eq (Jvm.Term.string "ContraryChairs$Academy" (126 : Nat)) (Jvm.Term.string "ContraryChairs$Book" (53 : Nat)))), (Jvm.Cond.not (Jvm.Cond.eq (Jvm.Term.string "ContraryChairs$Academy" (127 : Nat)) (Jvm.Term.string "ContraryChairs$Book" (53 : Nat)))), (Jvm.Cond.not (Jvm.Cond.eq (Jvm.Term.string "ContraryChairs$Academy" (129 : Nat)) (Jvm.Term.string "ContraryChairs$Book" (53 : Nat))))]
def zLit12 : List Cond := [(Jvm.Cond.not (Jvm.Cond.eq (Jvm.Term.string "ContraryChairs$Law" (76 : Nat)) (Jvm.Term.string "ContraryChairs$Book" (53 : Nat)))), (Jvm.Cond.not (Jvm.Cond.eq (Jvm.Term.string "ContraryChairs$Law" (85 : Nat)) (Jvm.Term.string "ContraryChairs$Book" (53 : Nat)))), (Jvm.Cond.not (Jvm.Cond.eq (Jvm.Term.string "ContraryChairs$Law" (99 : Nat)) (Jvm.Term.string "ContraryChairs$Book" (53 : Nat)))), (Jvm.Cond.not (Jvm.Cond.eq (Jvm.Term.string "ContraryChairs$Law" (101 : Nat)) (Jvm.Term.string "ContraryChairs$Book" (53 : Nat)))), (Jvm.Cond.not (Jvm.Cond.eq (Jvm.Term.string "ContraryChairs$Law" (103 : Nat)) (Jvm.Term.string "ContraryChairs$Book" (53 : Nat)))), (Jvm.Cond.not (Jvm.Cond.eq (Jvm.Term.string "ContraryChairs$Law" (105 : Nat)) (Jvm.Term.string "ContraryChairs$Book" (53 : Nat)))), (Jvm.Cond.not (Jvm.Cond.eq (Jvm.Term.string "ContraryChairs$Law" (107 : Nat)) (Jvm.Term.string "ContraryChairs$Book" (53 : Nat)))), (Jvm.Cond.not (Jvm.Cond.eq (Jvm.Term.string "ContraryChairs$Law" (108 : Nat)) (Jvm.Term.string "ContraryChairs$Book" (53 : Nat)))), (Jvm.Cond.not (Jvm.Cond.eq (Jvm.Term.string "ContraryChairs$Law" (110 : Nat)) (Jvm.Term.string "ContraryChairs$Book" (53 : Nat))))]
def zPre : List Cond := flatC (Jvm.Cond.and given_1 narrow_1)
def zLit : List Cond := zLit0 ++ (zLit1 ++ (zLit2 ++ (zLit3 ++ (zLit4 ++ (zLit5 ++ (zLit6 ++ (zLit7 ++ (zLit8 ++ (zLit9 ++ (zLit10 ++ (zLit11 ++ (zLit12))))))))))))
set_option maxRecDepth 100000 in
theorem zPre_eq : zPre = zLit := by decide +kernel
theorem zLin0 {c : Cond} (h : c ∈ zLit0) : c ∈ zPre := by
  rw [zPre_eq]
  exact List.mem_append_left _ h
theorem zLin1 {c : Cond} (h : c ∈ zLit1) : c ∈ zPre := by
  rw [zPre_eq]
  exact List.mem_append_right _ (List.mem_append_left _ h)
theorem zLin2 {c : Cond} (h : c ∈ zLit2) : c ∈ zPre := by
  rw [zPre_eq]
  exact List.mem_append_right _ (List.mem_append_right _ (List.mem_append_left _ h))
theorem zLin3 {c : Cond} (h : c ∈ zLit3) : c ∈ zPre := by
  rw [zPre_eq]
  exact List.mem_append_right _ (List.mem_append_right _ (List.mem_append_right _ (List.mem_append_left _ h)))
theorem zLin4 {c : Cond} (h : c ∈ zLit4) : c ∈ zPre := by
  rw [zPre_eq]
  exact List.mem_append_right _ (List.mem_append_right _ (List.mem_append_right _ (List.mem_append_right _ (List.mem_append_left _ h))))
theorem zLin5 {c : Cond} (h : c ∈ zLit5) : c ∈ zPre := by
  rw [zPre_eq]
  exact List.mem_append_right _ (List.mem_append_right _ (List.mem_append_right _ (List.mem_append_right _ (List.mem_append_right _ (List.mem_append_left _ h)))))
theorem zLin6 {c : Cond} (h : c ∈ zLit6) : c ∈ zPre := by
  rw [zPre_eq]
  exact List.mem_append_right _ (List.mem_append_right _ (List.mem_append_right _ (List.mem_append_right _ (List.mem_append_right _ (List.mem_append_right _ (List.mem_append_left _ h))))))
theorem zLin7 {c : Cond} (h : c ∈ zLit7) : c ∈ zPre := by
  rw [zPre_eq]
  exact List.mem_append_right _ (List.mem_append_right _ (List.mem_append_right _ (List.mem_append_right _ (List.mem_append_right _ (List.mem_append_right _ (List.mem_append_right _ (List.mem_append_left _ h)))))))
theorem zLin8 {c : Cond} (h : c ∈ zLit8) : c ∈ zPre := by
  rw [zPre_eq]
  exact List.mem_append_right _ (List.mem_append_right _ (List.mem_append_right _ (List.mem_append_right _ (List.mem_append_right _ (List.mem_append_right _ (List.mem_append_right _ (List.mem_append_right _ (List.mem_append_left _ h))))))))
theorem zLin9 {c : Cond} (h : c ∈ zLit9) : c ∈ zPre := by
  rw [zPre_eq]
  exact List.mem_append_right _ (List.mem_append_right _ (List.mem_append_right _ (List.mem_append_right _ (List.mem_append_right _ (List.mem_append_right _ (List.mem_append_right _ (List.mem_append_right _ (List.mem_append_right _ (List.mem_append_left _ h)))))))))
theorem zLin10 {c : Cond} (h : c ∈ zLit10) : c ∈ zPre := by
  rw [zPre_eq]
  exact List.mem_append_right _ (List.mem_append_right _ (List.mem_append_right _ (List.mem_append_right _ (List.mem_append_right _ (List.mem_append_right _ (List.mem_append_right _ (List.mem_append_right _ (List.mem_append_right _ (List.mem_append_right _ (List.mem_append_left _ h))))))))))
theorem zLin11 {c : Cond} (h : c ∈ zLit11) : c ∈ zPre := by
  rw [zPre_eq]
  exact List.mem_append_right _ (List.mem_append_right _ (List.mem_append_right _ (List.mem_append_right _ (List.mem_append_right _ (List.mem_append_right _ (List.mem_append_right _ (List.mem_append_right _ (List.mem_append_right _ (List.mem_append_right _ (List.mem_append_right _ (List.mem_append_left _ h)))))))))))
theorem zLin12 {c : Cond} (h : c ∈ zLit12) : c ∈ zPre := by
  rw [zPre_eq]
  exact List.mem_append_right _ (List.mem_append_right _ (List.mem_append_right _ (List.mem_append_right _ (List.mem_append_right _ (List.mem_append_right _ (List.mem_append_right _ (List.mem_append_right _ (List.mem_append_right _ (List.mem_append_right _ (List.mem_append_right _ (List.mem_append_right _ (h))))))))))))
def zSK2 : List (String × Nat) := zSK
def ztm (i : Nat) : Term := Term.string (zSK.getD i ("", 0)).1 (zSK.getD i ("", 0)).2
def zlenL : List Nat := [8, 3, 4, 6, 4, 6, 5, 4, 7, 6, 5, 3, 6, 4, 3, 4]
def zbytL : List (List Int32) := [[113, 117, 101, 115, 116, 105, 111, 110], [109, 97, 110], [115, 101, 97, 116], [99, 104, 97, 105, 114, 115], [100, 105, 101, 115], [112, 114, 97, 105, 115, 101], [108, 101, 97, 115, 116], [109, 111, 115, 116], [100, 105, 102, 102, 101, 114, 115], [97, 103, 114, 101, 101, 115], [119, 97, 105, 116, 115], [97, 103, 101], [110, 117, 109, 98, 101, 114], [121, 101, 97, 114], [115, 97, 116], [118, 111, 105, 100]]
set_option maxRecDepth 100000 in
theorem zq_ex : ∀ i : Nat, i < 16 → Cond.exactly (ztm i) "java/lang/String" ∈ zPre := fun i hi => match i, hi with
  | 0, _ => zLin1 (List.mem_of_getElem? (i := 11) rfl)
  | 1, _ => zLin1 (List.mem_of_getElem? (i := 23) rfl)
  | 2, _ => zLin2 (List.mem_of_getElem? (i := 7) rfl)
  | 3, _ => zLin2 (List.mem_of_getElem? (i := 17) rfl)
  | 4, _ => zLin3 (List.mem_of_getElem? (i := 6) rfl)
  | 5, _ => zLin3 (List.mem_of_getElem? (i := 18) rfl)
  | 6, _ => zLin4 (List.mem_of_getElem? (i := 9) rfl)
  | 7, _ => zLin5 (List.mem_of_getElem? (i := 0) rfl)
  | 8, _ => zLin5 (List.mem_of_getElem? (i := 15) rfl)
  | 9, _ => zLin6 (List.mem_of_getElem? (i := 10) rfl)
  | 10, _ => zLin7 (List.mem_of_getElem? (i := 5) rfl)
  | 11, _ => zLin8 (List.mem_of_getElem? (i := 0) rfl)
  | 12, _ => zLin8 (List.mem_of_getElem? (i := 18) rfl)
  | 13, _ => zLin9 (List.mem_of_getElem? (i := 16) rfl)
  | 14, _ => zLin10 (List.mem_of_getElem? (i := 13) rfl)
  | 15, _ => zLin11 (List.mem_of_getElem? (i := 10) rfl)
  | n + 16, h => absurd h (by omega)
set_option maxRecDepth 100000 in
theorem zq_co : ∀ i : Nat, i < 16 → Cond.eq (.field (ztm i) "java/lang/String" "coder" "B") (.int 0) ∈ zPre := fun i hi => match i, hi with
  | 0, _ => zLin1 (List.mem_of_getElem? (i := 12) rfl)
  | 1, _ => zLin2 (List.mem_of_getElem? (i := 0) rfl)
  | 2, _ => zLin2 (List.mem_of_getElem? (i := 8) rfl)
  | 3, _ => zLin2 (List.mem_of_getElem? (i := 18) rfl)
  | 4, _ => zLin3 (List.mem_of_getElem? (i := 7) rfl)
  | 5, _ => zLin3 (List.mem_of_getElem? (i := 19) rfl)
  | 6, _ => zLin4 (List.mem_of_getElem? (i := 10) rfl)
  | 7, _ => zLin5 (List.mem_of_getElem? (i := 1) rfl)
  | 8, _ => zLin5 (List.mem_of_getElem? (i := 16) rfl)
  | 9, _ => zLin6 (List.mem_of_getElem? (i := 11) rfl)
  | 10, _ => zLin7 (List.mem_of_getElem? (i := 6) rfl)
  | 11, _ => zLin8 (List.mem_of_getElem? (i := 1) rfl)
  | 12, _ => zLin8 (List.mem_of_getElem? (i := 19) rfl)
  | 13, _ => zLin9 (List.mem_of_getElem? (i := 17) rfl)
  | 14, _ => zLin10 (List.mem_of_getElem? (i := 14) rfl)
  | 15, _ => zLin11 (List.mem_of_getElem? (i := 11) rfl)
  | n + 16, h => absurd h (by omega)
set_option maxRecDepth 100000 in
theorem zq_ar : ∀ i : Nat, i < 16 → Cond.arrayOf (.field (ztm i) "java/lang/String" "value" "[B") .byte ∈ zPre := fun i hi => match i, hi with
  | 0, _ => zLin1 (List.mem_of_getElem? (i := 13) rfl)
  | 1, _ => zLin2 (List.mem_of_getElem? (i := 1) rfl)
  | 2, _ => zLin2 (List.mem_of_getElem? (i := 9) rfl)
  | 3, _ => zLin2 (List.mem_of_getElem? (i := 19) rfl)
  | 4, _ => zLin3 (List.mem_of_getElem? (i := 8) rfl)
  | 5, _ => zLin3 (List.mem_of_getElem? (i := 20) rfl)
  | 6, _ => zLin4 (List.mem_of_getElem? (i := 11) rfl)
  | 7, _ => zLin5 (List.mem_of_getElem? (i := 2) rfl)
  | 8, _ => zLin5 (List.mem_of_getElem? (i := 17) rfl)
  | 9, _ => zLin6 (List.mem_of_getElem? (i := 12) rfl)
  | 10, _ => zLin7 (List.mem_of_getElem? (i := 7) rfl)
  | 11, _ => zLin8 (List.mem_of_getElem? (i := 2) rfl)
  | 12, _ => zLin8 (List.mem_of_getElem? (i := 20) rfl)
  | 13, _ => zLin9 (List.mem_of_getElem? (i := 18) rfl)
  | 14, _ => zLin10 (List.mem_of_getElem? (i := 15) rfl)
  | 15, _ => zLin11 (List.mem_of_getElem? (i := 12) rfl)
  | n + 16, h => absurd h (by omega)
set_option maxRecDepth 100000 in
theorem zq_le : ∀ i : Nat, i < 16 → Cond.eq (.length (.field (ztm i) "java/lang/String" "value" "[B")) (.int (Int32.ofNat (zlenL.getD i 0))) ∈ zPre := fun i hi => match i, hi with
  | 0, _ => zLin1 (List.mem_of_getElem? (i := 14) rfl)
  | 1, _ => zLin2 (List.mem_of_getElem? (i := 2) rfl)
  | 2, _ => zLin2 (List.mem_of_getElem? (i := 10) rfl)
  | 3, _ => zLin2 (List.mem_of_getElem? (i := 20) rfl)
  | 4, _ => zLin3 (List.mem_of_getElem? (i := 9) rfl)
  | 5, _ => zLin3 (List.mem_of_getElem? (i := 21) rfl)
  | 6, _ => zLin4 (List.mem_of_getElem? (i := 12) rfl)
  | 7, _ => zLin5 (List.mem_of_getElem? (i := 3) rfl)
  | 8, _ => zLin5 (List.mem_of_getElem? (i := 18) rfl)
  | 9, _ => zLin6 (List.mem_of_getElem? (i := 13) rfl)
  | 10, _ => zLin7 (List.mem_of_getElem? (i := 8) rfl)
  | 11, _ => zLin8 (List.mem_of_getElem? (i := 3) rfl)
  | 12, _ => zLin8 (List.mem_of_getElem? (i := 21) rfl)
  | 13, _ => zLin9 (List.mem_of_getElem? (i := 19) rfl)
  | 14, _ => zLin10 (List.mem_of_getElem? (i := 16) rfl)
  | 15, _ => zLin11 (List.mem_of_getElem? (i := 13) rfl)
  | n + 16, h => absurd h (by omega)
set_option maxRecDepth 100000 in
theorem zq_el : ∀ i : Nat, i < 16 → ∀ j : Nat, j < zlenL.getD i 0 → Cond.eq (.elem (.field (ztm i) "java/lang/String" "value" "[B") (.int (Int32.ofNat j))) (.int ((zbytL.getD i []).getD j 0)) ∈ zPre := fun i hi j hj => match i, hi, j, hj with
  | 0, _, 0, _ => zLin1 (List.mem_of_getElem? (i := 15) rfl)
  | 0, _, 1, _ => zLin1 (List.mem_of_getElem? (i := 16) rfl)
  | 0, _, 2, _ => zLin1 (List.mem_of_getElem? (i := 17) rfl)
  | 0, _, 3, _ => zLin1 (List.mem_of_getElem? (i := 18) rfl)
  | 0, _, 4, _ => zLin1 (List.mem_of_getElem? (i := 19) rfl)
  | 0, _, 5, _ => zLin1 (List.mem_of_getElem? (i := 20) rfl)
  | 0, _, 6, _ => zLin1 (List.mem_of_getElem? (i := 21) rfl)
  | 0, _, 7, _ => zLin1 (List.mem_of_getElem? (i := 22) rfl)
  | 0, _, n + 8, h => absurd h (by show ¬ n + 8 < 8; omega)
  | 1, _, 0, _ => zLin2 (List.mem_of_getElem? (i := 3) rfl)
  | 1, _, 1, _ => zLin2 (List.mem_of_getElem? (i := 4) rfl)
  | 1, _, 2, _ => zLin2 (List.mem_of_getElem? (i := 5) rfl)
  | 1, _, n + 3, h => absurd h (by show ¬ n + 3 < 3; omega)
  | 2, _, 0, _ => zLin2 (List.mem_of_getElem? (i := 11) rfl)
  | 2, _, 1, _ => zLin2 (List.mem_of_getElem? (i := 12) rfl)
  | 2, _, 2, _ => zLin2 (List.mem_of_getElem? (i := 13) rfl)
  | 2, _, 3, _ => zLin2 (List.mem_of_getElem? (i := 14) rfl)
  | 2, _, n + 4, h => absurd h (by show ¬ n + 4 < 4; omega)
  | 3, _, 0, _ => zLin2 (List.mem_of_getElem? (i := 21) rfl)
  | 3, _, 1, _ => zLin2 (List.mem_of_getElem? (i := 22) rfl)
  | 3, _, 2, _ => zLin2 (List.mem_of_getElem? (i := 23) rfl)
  | 3, _, 3, _ => zLin3 (List.mem_of_getElem? (i := 0) rfl)
  | 3, _, 4, _ => zLin3 (List.mem_of_getElem? (i := 1) rfl)
  | 3, _, 5, _ => zLin3 (List.mem_of_getElem? (i := 2) rfl)
  | 3, _, n + 6, h => absurd h (by show ¬ n + 6 < 6; omega)
  | 4, _, 0, _ => zLin3 (List.mem_of_getElem? (i := 10) rfl)
  | 4, _, 1, _ => zLin3 (List.mem_of_getElem? (i := 11) rfl)
  | 4, _, 2, _ => zLin3 (List.mem_of_getElem? (i := 12) rfl)
  | 4, _, 3, _ => zLin3 (List.mem_of_getElem? (i := 13) rfl)
  | 4, _, n + 4, h => absurd h (by show ¬ n + 4 < 4; omega)
  | 5, _, 0, _ => zLin3 (List.mem_of_getElem? (i := 22) rfl)
  | 5, _, 1, _ => zLin3 (List.mem_of_getElem? (i := 23) rfl)
  | 5, _, 2, _ => zLin4 (List.mem_of_getElem? (i := 0) rfl)
  | 5, _, 3, _ => zLin4 (List.mem_of_getElem? (i := 1) rfl)
  | 5, _, 4, _ => zLin4 (List.mem_of_getElem? (i := 2) rfl)
  | 5, _, 5, _ => zLin4 (List.mem_of_getElem? (i := 3) rfl)
  | 5, _, n + 6, h => absurd h (by show ¬ n + 6 < 6; omega)
  | 6, _, 0, _ => zLin4 (List.mem_of_getElem? (i := 13) rfl)
  | 6, _, 1, _ => zLin4 (List.mem_of_getElem? (i := 14) rfl)
  | 6, _, 2, _ => zLin4 (List.mem_of_getElem? (i := 15) rfl)
  | 6, _, 3, _ => zLin4 (List.mem_of_getElem? (i := 16) rfl)
  | 6, _, 4, _ => zLin4 (List.mem_of_getElem? (i := 17) rfl)
  | 6, _, n + 5, h => absurd h (by show ¬ n + 5 < 5; omega)
  | 7, _, 0, _ => zLin5 (List.mem_of_getElem? (i := 4) rfl)
  | 7, _, 1, _ => zLin5 (List.mem_of_getElem? (i := 5) rfl)
  | 7, _, 2, _ => zLin5 (List.mem_of_getElem? (i := 6) rfl)
  | 7, _, 3, _ => zLin5 (List.mem_of_getElem? (i := 7) rfl)
  | 7, _, n + 4, h => absurd h (by show ¬ n + 4 < 4; omega)
  | 8, _, 0, _ => zLin5 (List.mem_of_getElem? (i := 19) rfl)
  | 8, _, 1, _ => zLin5 (List.mem_of_getElem? (i := 20) rfl)
  | 8, _, 2, _ => zLin5 (List.mem_of_getElem? (i := 21) rfl)
  | 8, _, 3, _ => zLin5 (List.mem_of_getElem? (i := 22) rfl)
  | 8, _, 4, _ => zLin5 (List.mem_of_getElem? (i := 23) rfl)
  | 8, _, 5, _ => zLin6 (List.mem_of_getElem? (i := 0) rfl)
  | 8, _, 6, _ => zLin6 (List.mem_of_getElem? (i := 1) rfl)
  | 8, _, n + 7, h => absurd h (by show ¬ n + 7 < 7; omega)
  | 9, _, 0, _ => zLin6 (List.mem_of_getElem? (i := 14) rfl)
  | 9, _, 1, _ => zLin6 (List.mem_of_getElem? (i := 15) rfl)
  | 9, _, 2, _ => zLin6 (List.mem_of_getElem? (i := 16) rfl)
  | 9, _, 3, _ => zLin6 (List.mem_of_getElem? (i := 17) rfl)
  | 9, _, 4, _ => zLin6 (List.mem_of_getElem? (i := 18) rfl)
  | 9, _, 5, _ => zLin6 (List.mem_of_getElem? (i := 19) rfl)
  | 9, _, n + 6, h => absurd h (by show ¬ n + 6 < 6; omega)
  | 10, _, 0, _ => zLin7 (List.mem_of_getElem? (i := 9) rfl)
  | 10, _, 1, _ => zLin7 (List.mem_of_getElem? (i := 10) rfl)
  | 10, _, 2, _ => zLin7 (List.mem_of_getElem? (i := 11) rfl)
  | 10, _, 3, _ => zLin7 (List.mem_of_getElem? (i := 12) rfl)
  | 10, _, 4, _ => zLin7 (List.mem_of_getElem? (i := 13) rfl)
  | 10, _, n + 5, h => absurd h (by show ¬ n + 5 < 5; omega)
  | 11, _, 0, _ => zLin8 (List.mem_of_getElem? (i := 4) rfl)
  | 11, _, 1, _ => zLin8 (List.mem_of_getElem? (i := 5) rfl)
  | 11, _, 2, _ => zLin8 (List.mem_of_getElem? (i := 6) rfl)
  | 11, _, n + 3, h => absurd h (by show ¬ n + 3 < 3; omega)
  | 12, _, 0, _ => zLin8 (List.mem_of_getElem? (i := 22) rfl)
  | 12, _, 1, _ => zLin8 (List.mem_of_getElem? (i := 23) rfl)
  | 12, _, 2, _ => zLin9 (List.mem_of_getElem? (i := 0) rfl)
  | 12, _, 3, _ => zLin9 (List.mem_of_getElem? (i := 1) rfl)
  | 12, _, 4, _ => zLin9 (List.mem_of_getElem? (i := 2) rfl)
  | 12, _, 5, _ => zLin9 (List.mem_of_getElem? (i := 3) rfl)
  | 12, _, n + 6, h => absurd h (by show ¬ n + 6 < 6; omega)
  | 13, _, 0, _ => zLin9 (List.mem_of_getElem? (i := 20) rfl)
  | 13, _, 1, _ => zLin9 (List.mem_of_getElem? (i := 21) rfl)
  | 13, _, 2, _ => zLin9 (List.mem_of_getElem? (i := 22) rfl)
  | 13, _, 3, _ => zLin9 (List.mem_of_getElem? (i := 23) rfl)
  | 13, _, n + 4, h => absurd h (by show ¬ n + 4 < 4; omega)
  | 14, _, 0, _ => zLin10 (List.mem_of_getElem? (i := 17) rfl)
  | 14, _, 1, _ => zLin10 (List.mem_of_getElem? (i := 18) rfl)
  | 14, _, 2, _ => zLin10 (List.mem_of_getElem? (i := 19) rfl)
  | 14, _, n + 3, h => absurd h (by show ¬ n + 3 < 3; omega)
  | 15, _, 0, _ => zLin11 (List.mem_of_getElem? (i := 14) rfl)
  | 15, _, 1, _ => zLin11 (List.mem_of_getElem? (i := 15) rfl)
  | 15, _, 2, _ => zLin11 (List.mem_of_getElem? (i := 16) rfl)
  | 15, _, 3, _ => zLin11 (List.mem_of_getElem? (i := 17) rfl)
  | 15, _, n + 4, h => absurd h (by show ¬ n + 4 < 4; omega)
  | n + 16, h, _, _ => absurd h (by omega)
theorem zqn_0_1 : Cond.not (Cond.eq (ztm 0) (ztm 1)) ∈ zPre ∨ Cond.not (Cond.eq (ztm 1) (ztm 0)) ∈ zPre := Or.inl (zLin2 (List.mem_of_getElem? (i := 6) rfl))
theorem zqn_0_2 : Cond.not (Cond.eq (ztm 0) (ztm 2)) ∈ zPre ∨ Cond.not (Cond.eq (ztm 2) (ztm 0)) ∈ zPre := Or.inl (zLin2 (List.mem_of_getElem? (i := 15) rfl))
theorem zqn_0_3 : Cond.not (Cond.eq (ztm 0) (ztm 3)) ∈ zPre ∨ Cond.not (Cond.eq (ztm 3) (ztm 0)) ∈ zPre := Or.inl (zLin3 (List.mem_of_getElem? (i := 3) rfl))
theorem zqn_0_4 : Cond.not (Cond.eq (ztm 0) (ztm 4)) ∈ zPre ∨ Cond.not (Cond.eq (ztm 4) (ztm 0)) ∈ zPre := Or.inl (zLin3 (List.mem_of_getElem? (i := 14) rfl))
theorem zqn_0_5 : Cond.not (Cond.eq (ztm 0) (ztm 5)) ∈ zPre ∨ Cond.not (Cond.eq (ztm 5) (ztm 0)) ∈ zPre := Or.inl (zLin4 (List.mem_of_getElem? (i := 4) rfl))
theorem zqn_0_6 : Cond.not (Cond.eq (ztm 0) (ztm 6)) ∈ zPre ∨ Cond.not (Cond.eq (ztm 6) (ztm 0)) ∈ zPre := Or.inl (zLin4 (List.mem_of_getElem? (i := 18) rfl))
theorem zqn_0_7 : Cond.not (Cond.eq (ztm 0) (ztm 7)) ∈ zPre ∨ Cond.not (Cond.eq (ztm 7) (ztm 0)) ∈ zPre := Or.inl (zLin5 (List.mem_of_getElem? (i := 8) rfl))
theorem zqn_0_8 : Cond.not (Cond.eq (ztm 0) (ztm 8)) ∈ zPre ∨ Cond.not (Cond.eq (ztm 8) (ztm 0)) ∈ zPre := Or.inl (zLin6 (List.mem_of_getElem? (i := 2) rfl))
theorem zqn_0_9 : Cond.not (Cond.eq (ztm 0) (ztm 9)) ∈ zPre ∨ Cond.not (Cond.eq (ztm 9) (ztm 0)) ∈ zPre := Or.inl (zLin6 (List.mem_of_getElem? (i := 20) rfl))
theorem zqn_0_10 : Cond.not (Cond.eq (ztm 0) (ztm 10)) ∈ zPre ∨ Cond.not (Cond.eq (ztm 10) (ztm 0)) ∈ zPre := Or.inl (zLin7 (List.mem_of_getElem? (i := 14) rfl))
theorem zqn_0_11 : Cond.not (Cond.eq (ztm 0) (ztm 11)) ∈ zPre ∨ Cond.not (Cond.eq (ztm 11) (ztm 0)) ∈ zPre := Or.inl (zLin8 (List.mem_of_getElem? (i := 7) rfl))
theorem zqn_0_12 : Cond.not (Cond.eq (ztm 0) (ztm 12)) ∈ zPre ∨ Cond.not (Cond.eq (ztm 12) (ztm 0)) ∈ zPre := Or.inl (zLin9 (List.mem_of_getElem? (i := 4) rfl))
theorem zqn_0_13 : Cond.not (Cond.eq (ztm 0) (ztm 13)) ∈ zPre ∨ Cond.not (Cond.eq (ztm 13) (ztm 0)) ∈ zPre := Or.inl (zLin10 (List.mem_of_getElem? (i := 0) rfl))
theorem zqn_0_14 : Cond.not (Cond.eq (ztm 0) (ztm 14)) ∈ zPre ∨ Cond.not (Cond.eq (ztm 14) (ztm 0)) ∈ zPre := Or.inl (zLin10 (List.mem_of_getElem? (i := 20) rfl))
theorem zqn_0_15 : Cond.not (Cond.eq (ztm 0) (ztm 15)) ∈ zPre ∨ Cond.not (Cond.eq (ztm 15) (ztm 0)) ∈ zPre := Or.inl (zLin11 (List.mem_of_getElem? (i := 18) rfl))
theorem zqn_1_2 : Cond.not (Cond.eq (ztm 1) (ztm 2)) ∈ zPre ∨ Cond.not (Cond.eq (ztm 2) (ztm 1)) ∈ zPre := Or.inl (zLin2 (List.mem_of_getElem? (i := 16) rfl))
theorem zqn_1_3 : Cond.not (Cond.eq (ztm 1) (ztm 3)) ∈ zPre ∨ Cond.not (Cond.eq (ztm 3) (ztm 1)) ∈ zPre := Or.inl (zLin3 (List.mem_of_getElem? (i := 4) rfl))
theorem zqn_1_4 : Cond.not (Cond.eq (ztm 1) (ztm 4)) ∈ zPre ∨ Cond.not (Cond.eq (ztm 4) (ztm 1)) ∈ zPre := Or.inl (zLin3 (List.mem_of_getElem? (i := 15) rfl))
theorem zqn_1_5 : Cond.not (Cond.eq (ztm 1) (ztm 5)) ∈ zPre ∨ Cond.not (Cond.eq (ztm 5) (ztm 1)) ∈ zPre := Or.inl (zLin4 (List.mem_of_getElem? (i := 5) rfl))
theorem zqn_1_6 : Cond.not (Cond.eq (ztm 1) (ztm 6)) ∈ zPre ∨ Cond.not (Cond.eq (ztm 6) (ztm 1)) ∈ zPre := Or.inl (zLin4 (List.mem_of_getElem? (i := 19) rfl))
theorem zqn_1_7 : Cond.not (Cond.eq (ztm 1) (ztm 7)) ∈ zPre ∨ Cond.not (Cond.eq (ztm 7) (ztm 1)) ∈ zPre := Or.inl (zLin5 (List.mem_of_getElem? (i := 9) rfl))
theorem zqn_1_8 : Cond.not (Cond.eq (ztm 1) (ztm 8)) ∈ zPre ∨ Cond.not (Cond.eq (ztm 8) (ztm 1)) ∈ zPre := Or.inl (zLin6 (List.mem_of_getElem? (i := 3) rfl))
theorem zqn_1_9 : Cond.not (Cond.eq (ztm 1) (ztm 9)) ∈ zPre ∨ Cond.not (Cond.eq (ztm 9) (ztm 1)) ∈ zPre := Or.inl (zLin6 (List.mem_of_getElem? (i := 21) rfl))
theorem zqn_1_10 : Cond.not (Cond.eq (ztm 1) (ztm 10)) ∈ zPre ∨ Cond.not (Cond.eq (ztm 10) (ztm 1)) ∈ zPre := Or.inl (zLin7 (List.mem_of_getElem? (i := 15) rfl))
theorem zqn_1_11 : Cond.not (Cond.eq (ztm 1) (ztm 11)) ∈ zPre ∨ Cond.not (Cond.eq (ztm 11) (ztm 1)) ∈ zPre := Or.inl (zLin8 (List.mem_of_getElem? (i := 8) rfl))
theorem zqn_1_12 : Cond.not (Cond.eq (ztm 1) (ztm 12)) ∈ zPre ∨ Cond.not (Cond.eq (ztm 12) (ztm 1)) ∈ zPre := Or.inl (zLin9 (List.mem_of_getElem? (i := 5) rfl))
theorem zqn_1_13 : Cond.not (Cond.eq (ztm 1) (ztm 13)) ∈ zPre ∨ Cond.not (Cond.eq (ztm 13) (ztm 1)) ∈ zPre := Or.inl (zLin10 (List.mem_of_getElem? (i := 1) rfl))
theorem zqn_1_14 : Cond.not (Cond.eq (ztm 1) (ztm 14)) ∈ zPre ∨ Cond.not (Cond.eq (ztm 14) (ztm 1)) ∈ zPre := Or.inl (zLin10 (List.mem_of_getElem? (i := 21) rfl))
theorem zqn_1_15 : Cond.not (Cond.eq (ztm 1) (ztm 15)) ∈ zPre ∨ Cond.not (Cond.eq (ztm 15) (ztm 1)) ∈ zPre := Or.inl (zLin11 (List.mem_of_getElem? (i := 19) rfl))
theorem zqn_2_3 : Cond.not (Cond.eq (ztm 2) (ztm 3)) ∈ zPre ∨ Cond.not (Cond.eq (ztm 3) (ztm 2)) ∈ zPre := Or.inl (zLin3 (List.mem_of_getElem? (i := 5) rfl))
theorem zqn_2_4 : Cond.not (Cond.eq (ztm 2) (ztm 4)) ∈ zPre ∨ Cond.not (Cond.eq (ztm 4) (ztm 2)) ∈ zPre := Or.inl (zLin3 (List.mem_of_getElem? (i := 16) rfl))
theorem zqn_2_5 : Cond.not (Cond.eq (ztm 2) (ztm 5)) ∈ zPre ∨ Cond.not (Cond.eq (ztm 5) (ztm 2)) ∈ zPre := Or.inl (zLin4 (List.mem_of_getElem? (i := 6) rfl))
theorem zqn_2_6 : Cond.not (Cond.eq (ztm 2) (ztm 6)) ∈ zPre ∨ Cond.not (Cond.eq (ztm 6) (ztm 2)) ∈ zPre := Or.inl (zLin4 (List.mem_of_getElem? (i := 20) rfl))
theorem zqn_2_7 : Cond.not (Cond.eq (ztm 2) (ztm 7)) ∈ zPre ∨ Cond.not (Cond.eq (ztm 7) (ztm 2)) ∈ zPre := Or.inl (zLin5 (List.mem_of_getElem? (i := 10) rfl))
theorem zqn_2_8 : Cond.not (Cond.eq (ztm 2) (ztm 8)) ∈ zPre ∨ Cond.not (Cond.eq (ztm 8) (ztm 2)) ∈ zPre := Or.inl (zLin6 (List.mem_of_getElem? (i := 4) rfl))
theorem zqn_2_9 : Cond.not (Cond.eq (ztm 2) (ztm 9)) ∈ zPre ∨ Cond.not (Cond.eq (ztm 9) (ztm 2)) ∈ zPre := Or.inl (zLin6 (List.mem_of_getElem? (i := 22) rfl))
theorem zqn_2_10 : Cond.not (Cond.eq (ztm 2) (ztm 10)) ∈ zPre ∨ Cond.not (Cond.eq (ztm 10) (ztm 2)) ∈ zPre := Or.inl (zLin7 (List.mem_of_getElem? (i := 16) rfl))
theorem zqn_2_11 : Cond.not (Cond.eq (ztm 2) (ztm 11)) ∈ zPre ∨ Cond.not (Cond.eq (ztm 11) (ztm 2)) ∈ zPre := Or.inl (zLin8 (List.mem_of_getElem? (i := 9) rfl))
theorem zqn_2_12 : Cond.not (Cond.eq (ztm 2) (ztm 12)) ∈ zPre ∨ Cond.not (Cond.eq (ztm 12) (ztm 2)) ∈ zPre := Or.inl (zLin9 (List.mem_of_getElem? (i := 6) rfl))
theorem zqn_2_13 : Cond.not (Cond.eq (ztm 2) (ztm 13)) ∈ zPre ∨ Cond.not (Cond.eq (ztm 13) (ztm 2)) ∈ zPre := Or.inl (zLin10 (List.mem_of_getElem? (i := 2) rfl))
theorem zqn_2_14 : Cond.not (Cond.eq (ztm 2) (ztm 14)) ∈ zPre ∨ Cond.not (Cond.eq (ztm 14) (ztm 2)) ∈ zPre := Or.inl (zLin10 (List.mem_of_getElem? (i := 22) rfl))
theorem zqn_2_15 : Cond.not (Cond.eq (ztm 2) (ztm 15)) ∈ zPre ∨ Cond.not (Cond.eq (ztm 15) (ztm 2)) ∈ zPre := Or.inl (zLin11 (List.mem_of_getElem? (i := 20) rfl))
theorem zqn_3_4 : Cond.not (Cond.eq (ztm 3) (ztm 4)) ∈ zPre ∨ Cond.not (Cond.eq (ztm 4) (ztm 3)) ∈ zPre := Or.inl (zLin3 (List.mem_of_getElem? (i := 17) rfl))
theorem zqn_3_5 : Cond.not (Cond.eq (ztm 3) (ztm 5)) ∈ zPre ∨ Cond.not (Cond.eq (ztm 5) (ztm 3)) ∈ zPre := Or.inl (zLin4 (List.mem_of_getElem? (i := 7) rfl))
theorem zqn_3_6 : Cond.not (Cond.eq (ztm 3) (ztm 6)) ∈ zPre ∨ Cond.not (Cond.eq (ztm 6) (ztm 3)) ∈ zPre := Or.inl (zLin4 (List.mem_of_getElem? (i := 21) rfl))
theorem zqn_3_7 : Cond.not (Cond.eq (ztm 3) (ztm 7)) ∈ zPre ∨ Cond.not (Cond.eq (ztm 7) (ztm 3)) ∈ zPre := Or.inl (zLin5 (List.mem_of_getElem? (i := 11) rfl))
theorem zqn_3_8 : Cond.not (Cond.eq (ztm 3) (ztm 8)) ∈ zPre ∨ Cond.not (Cond.eq (ztm 8) (ztm 3)) ∈ zPre := Or.inl (zLin6 (List.mem_of_getElem? (i := 5) rfl))
theorem zqn_3_9 : Cond.not (Cond.eq (ztm 3) (ztm 9)) ∈ zPre ∨ Cond.not (Cond.eq (ztm 9) (ztm 3)) ∈ zPre := Or.inl (zLin6 (List.mem_of_getElem? (i := 23) rfl))
theorem zqn_3_10 : Cond.not (Cond.eq (ztm 3) (ztm 10)) ∈ zPre ∨ Cond.not (Cond.eq (ztm 10) (ztm 3)) ∈ zPre := Or.inl (zLin7 (List.mem_of_getElem? (i := 17) rfl))
theorem zqn_3_11 : Cond.not (Cond.eq (ztm 3) (ztm 11)) ∈ zPre ∨ Cond.not (Cond.eq (ztm 11) (ztm 3)) ∈ zPre := Or.inl (zLin8 (List.mem_of_getElem? (i := 10) rfl))
theorem zqn_3_12 : Cond.not (Cond.eq (ztm 3) (ztm 12)) ∈ zPre ∨ Cond.not (Cond.eq (ztm 12) (ztm 3)) ∈ zPre := Or.inl (zLin9 (List.mem_of_getElem? (i := 7) rfl))
theorem zqn_3_13 : Cond.not (Cond.eq (ztm 3) (ztm 13)) ∈ zPre ∨ Cond.not (Cond.eq (ztm 13) (ztm 3)) ∈ zPre := Or.inl (zLin10 (List.mem_of_getElem? (i := 3) rfl))
theorem zqn_3_14 : Cond.not (Cond.eq (ztm 3) (ztm 14)) ∈ zPre ∨ Cond.not (Cond.eq (ztm 14) (ztm 3)) ∈ zPre := Or.inl (zLin10 (List.mem_of_getElem? (i := 23) rfl))
theorem zqn_3_15 : Cond.not (Cond.eq (ztm 3) (ztm 15)) ∈ zPre ∨ Cond.not (Cond.eq (ztm 15) (ztm 3)) ∈ zPre := Or.inl (zLin11 (List.mem_of_getElem? (i := 21) rfl))
theorem zqn_4_5 : Cond.not (Cond.eq (ztm 4) (ztm 5)) ∈ zPre ∨ Cond.not (Cond.eq (ztm 5) (ztm 4)) ∈ zPre := Or.inl (zLin4 (List.mem_of_getElem? (i := 8) rfl))
theorem zqn_4_6 : Cond.not (Cond.eq (ztm 4) (ztm 6)) ∈ zPre ∨ Cond.not (Cond.eq (ztm 6) (ztm 4)) ∈ zPre := Or.inl (zLin4 (List.mem_of_getElem? (i := 22) rfl))
theorem zqn_4_7 : Cond.not (Cond.eq (ztm 4) (ztm 7)) ∈ zPre ∨ Cond.not (Cond.eq (ztm 7) (ztm 4)) ∈ zPre := Or.inl (zLin5 (List.mem_of_getElem? (i := 12) rfl))
theorem zqn_4_8 : Cond.not (Cond.eq (ztm 4) (ztm 8)) ∈ zPre ∨ Cond.not (Cond.eq (ztm 8) (ztm 4)) ∈ zPre := Or.inl (zLin6 (List.mem_of_getElem? (i := 6) rfl))
theorem zqn_4_9 : Cond.not (Cond.eq (ztm 4) (ztm 9)) ∈ zPre ∨ Cond.not (Cond.eq (ztm 9) (ztm 4)) ∈ zPre := Or.inl (zLin7 (List.mem_of_getElem? (i := 0) rfl))
theorem zqn_4_10 : Cond.not (Cond.eq (ztm 4) (ztm 10)) ∈ zPre ∨ Cond.not (Cond.eq (ztm 10) (ztm 4)) ∈ zPre := Or.inl (zLin7 (List.mem_of_getElem? (i := 18) rfl))
theorem zqn_4_11 : Cond.not (Cond.eq (ztm 4) (ztm 11)) ∈ zPre ∨ Cond.not (Cond.eq (ztm 11) (ztm 4)) ∈ zPre := Or.inl (zLin8 (List.mem_of_getElem? (i := 11) rfl))
theorem zqn_4_12 : Cond.not (Cond.eq (ztm 4) (ztm 12)) ∈ zPre ∨ Cond.not (Cond.eq (ztm 12) (ztm 4)) ∈ zPre := Or.inl (zLin9 (List.mem_of_getElem? (i := 8) rfl))
theorem zqn_4_13 : Cond.not (Cond.eq (ztm 4) (ztm 13)) ∈ zPre ∨ Cond.not (Cond.eq (ztm 13) (ztm 4)) ∈ zPre := Or.inl (zLin10 (List.mem_of_getElem? (i := 4) rfl))
theorem zqn_4_14 : Cond.not (Cond.eq (ztm 4) (ztm 14)) ∈ zPre ∨ Cond.not (Cond.eq (ztm 14) (ztm 4)) ∈ zPre := Or.inl (zLin11 (List.mem_of_getElem? (i := 0) rfl))
theorem zqn_4_15 : Cond.not (Cond.eq (ztm 4) (ztm 15)) ∈ zPre ∨ Cond.not (Cond.eq (ztm 15) (ztm 4)) ∈ zPre := Or.inl (zLin11 (List.mem_of_getElem? (i := 22) rfl))
theorem zqn_5_6 : Cond.not (Cond.eq (ztm 5) (ztm 6)) ∈ zPre ∨ Cond.not (Cond.eq (ztm 6) (ztm 5)) ∈ zPre := Or.inl (zLin4 (List.mem_of_getElem? (i := 23) rfl))
theorem zqn_5_7 : Cond.not (Cond.eq (ztm 5) (ztm 7)) ∈ zPre ∨ Cond.not (Cond.eq (ztm 7) (ztm 5)) ∈ zPre := Or.inl (zLin5 (List.mem_of_getElem? (i := 13) rfl))
theorem zqn_5_8 : Cond.not (Cond.eq (ztm 5) (ztm 8)) ∈ zPre ∨ Cond.not (Cond.eq (ztm 8) (ztm 5)) ∈ zPre := Or.inl (zLin6 (List.mem_of_getElem? (i := 7) rfl))
theorem zqn_5_9 : Cond.not (Cond.eq (ztm 5) (ztm 9)) ∈ zPre ∨ Cond.not (Cond.eq (ztm 9) (ztm 5)) ∈ zPre := Or.inl (zLin7 (List.mem_of_getElem? (i := 1) rfl))
theorem zqn_5_10 : Cond.not (Cond.eq (ztm 5) (ztm 10)) ∈ zPre ∨ Cond.not (Cond.eq (ztm 10) (ztm 5)) ∈ zPre := Or.inl (zLin7 (List.mem_of_getElem? (i := 19) rfl))
theorem zqn_5_11 : Cond.not (Cond.eq (ztm 5) (ztm 11)) ∈ zPre ∨ Cond.not (Cond.eq (ztm 11) (ztm 5)) ∈ zPre := Or.inl (zLin8 (List.mem_of_getElem? (i := 12) rfl))
theorem zqn_5_12 : Cond.not (Cond.eq (ztm 5) (ztm 12)) ∈ zPre ∨ Cond.not (Cond.eq (ztm 12) (ztm 5)) ∈ zPre := Or.inl (zLin9 (List.mem_of_getElem? (i := 9) rfl))
theorem zqn_5_13 : Cond.not (Cond.eq (ztm 5) (ztm 13)) ∈ zPre ∨ Cond.not (Cond.eq (ztm 13) (ztm 5)) ∈ zPre := Or.inl (zLin10 (List.mem_of_getElem? (i := 5) rfl))
theorem zqn_5_14 : Cond.not (Cond.eq (ztm 5) (ztm 14)) ∈ zPre ∨ Cond.not (Cond.eq (ztm 14) (ztm 5)) ∈ zPre := Or.inl (zLin11 (List.mem_of_getElem? (i := 1) rfl))
theorem zqn_5_15 : Cond.not (Cond.eq (ztm 5) (ztm 15)) ∈ zPre ∨ Cond.not (Cond.eq (ztm 15) (ztm 5)) ∈ zPre := Or.inl (zLin11 (List.mem_of_getElem? (i := 23) rfl))
theorem zqn_6_7 : Cond.not (Cond.eq (ztm 6) (ztm 7)) ∈ zPre ∨ Cond.not (Cond.eq (ztm 7) (ztm 6)) ∈ zPre := Or.inl (zLin5 (List.mem_of_getElem? (i := 14) rfl))
theorem zqn_6_8 : Cond.not (Cond.eq (ztm 6) (ztm 8)) ∈ zPre ∨ Cond.not (Cond.eq (ztm 8) (ztm 6)) ∈ zPre := Or.inl (zLin6 (List.mem_of_getElem? (i := 8) rfl))
theorem zqn_6_9 : Cond.not (Cond.eq (ztm 6) (ztm 9)) ∈ zPre ∨ Cond.not (Cond.eq (ztm 9) (ztm 6)) ∈ zPre := Or.inl (zLin7 (List.mem_of_getElem? (i := 2) rfl))
theorem zqn_6_10 : Cond.not (Cond.eq (ztm 6) (ztm 10)) ∈ zPre ∨ Cond.not (Cond.eq (ztm 10) (ztm 6)) ∈ zPre := Or.inl (zLin7 (List.mem_of_getElem? (i := 20) rfl))
theorem zqn_6_11 : Cond.not (Cond.eq (ztm 6) (ztm 11)) ∈ zPre ∨ Cond.not (Cond.eq (ztm 11) (ztm 6)) ∈ zPre := Or.inl (zLin8 (List.mem_of_getElem? (i := 13) rfl))
theorem zqn_6_12 : Cond.not (Cond.eq (ztm 6) (ztm 12)) ∈ zPre ∨ Cond.not (Cond.eq (ztm 12) (ztm 6)) ∈ zPre := Or.inl (zLin9 (List.mem_of_getElem? (i := 10) rfl))
theorem zqn_6_13 : Cond.not (Cond.eq (ztm 6) (ztm 13)) ∈ zPre ∨ Cond.not (Cond.eq (ztm 13) (ztm 6)) ∈ zPre := Or.inl (zLin10 (List.mem_of_getElem? (i := 6) rfl))
theorem zqn_6_14 : Cond.not (Cond.eq (ztm 6) (ztm 14)) ∈ zPre ∨ Cond.not (Cond.eq (ztm 14) (ztm 6)) ∈ zPre := Or.inl (zLin11 (List.mem_of_getElem? (i := 2) rfl))
theorem zqn_6_15 : Cond.not (Cond.eq (ztm 6) (ztm 15)) ∈ zPre ∨ Cond.not (Cond.eq (ztm 15) (ztm 6)) ∈ zPre := Or.inl (zLin12 (List.mem_of_getElem? (i := 0) rfl))
theorem zqn_7_8 : Cond.not (Cond.eq (ztm 7) (ztm 8)) ∈ zPre ∨ Cond.not (Cond.eq (ztm 8) (ztm 7)) ∈ zPre := Or.inl (zLin6 (List.mem_of_getElem? (i := 9) rfl))
theorem zqn_7_9 : Cond.not (Cond.eq (ztm 7) (ztm 9)) ∈ zPre ∨ Cond.not (Cond.eq (ztm 9) (ztm 7)) ∈ zPre := Or.inl (zLin7 (List.mem_of_getElem? (i := 3) rfl))
theorem zqn_7_10 : Cond.not (Cond.eq (ztm 7) (ztm 10)) ∈ zPre ∨ Cond.not (Cond.eq (ztm 10) (ztm 7)) ∈ zPre := Or.inl (zLin7 (List.mem_of_getElem? (i := 21) rfl))
theorem zqn_7_11 : Cond.not (Cond.eq (ztm 7) (ztm 11)) ∈ zPre ∨ Cond.not (Cond.eq (ztm 11) (ztm 7)) ∈ zPre := Or.inl (zLin8 (List.mem_of_getElem? (i := 14) rfl))
theorem zqn_7_12 : Cond.not (Cond.eq (ztm 7) (ztm 12)) ∈ zPre ∨ Cond.not (Cond.eq (ztm 12) (ztm 7)) ∈ zPre := Or.inl (zLin9 (List.mem_of_getElem? (i := 11) rfl))
theorem zqn_7_13 : Cond.not (Cond.eq (ztm 7) (ztm 13)) ∈ zPre ∨ Cond.not (Cond.eq (ztm 13) (ztm 7)) ∈ zPre := Or.inl (zLin10 (List.mem_of_getElem? (i := 7) rfl))
theorem zqn_7_14 : Cond.not (Cond.eq (ztm 7) (ztm 14)) ∈ zPre ∨ Cond.not (Cond.eq (ztm 14) (ztm 7)) ∈ zPre := Or.inl (zLin11 (List.mem_of_getElem? (i := 3) rfl))
theorem zqn_7_15 : Cond.not (Cond.eq (ztm 7) (ztm 15)) ∈ zPre ∨ Cond.not (Cond.eq (ztm 15) (ztm 7)) ∈ zPre := Or.inl (zLin12 (List.mem_of_getElem? (i := 1) rfl))
theorem zqn_8_9 : Cond.not (Cond.eq (ztm 8) (ztm 9)) ∈ zPre ∨ Cond.not (Cond.eq (ztm 9) (ztm 8)) ∈ zPre := Or.inl (zLin7 (List.mem_of_getElem? (i := 4) rfl))
theorem zqn_8_10 : Cond.not (Cond.eq (ztm 8) (ztm 10)) ∈ zPre ∨ Cond.not (Cond.eq (ztm 10) (ztm 8)) ∈ zPre := Or.inl (zLin7 (List.mem_of_getElem? (i := 22) rfl))
theorem zqn_8_11 : Cond.not (Cond.eq (ztm 8) (ztm 11)) ∈ zPre ∨ Cond.not (Cond.eq (ztm 11) (ztm 8)) ∈ zPre := Or.inl (zLin8 (List.mem_of_getElem? (i := 15) rfl))
theorem zqn_8_12 : Cond.not (Cond.eq (ztm 8) (ztm 12)) ∈ zPre ∨ Cond.not (Cond.eq (ztm 12) (ztm 8)) ∈ zPre := Or.inl (zLin9 (List.mem_of_getElem? (i := 12) rfl))
theorem zqn_8_13 : Cond.not (Cond.eq (ztm 8) (ztm 13)) ∈ zPre ∨ Cond.not (Cond.eq (ztm 13) (ztm 8)) ∈ zPre := Or.inl (zLin10 (List.mem_of_getElem? (i := 8) rfl))
theorem zqn_8_14 : Cond.not (Cond.eq (ztm 8) (ztm 14)) ∈ zPre ∨ Cond.not (Cond.eq (ztm 14) (ztm 8)) ∈ zPre := Or.inl (zLin11 (List.mem_of_getElem? (i := 4) rfl))
theorem zqn_8_15 : Cond.not (Cond.eq (ztm 8) (ztm 15)) ∈ zPre ∨ Cond.not (Cond.eq (ztm 15) (ztm 8)) ∈ zPre := Or.inl (zLin12 (List.mem_of_getElem? (i := 2) rfl))
theorem zqn_9_10 : Cond.not (Cond.eq (ztm 9) (ztm 10)) ∈ zPre ∨ Cond.not (Cond.eq (ztm 10) (ztm 9)) ∈ zPre := Or.inl (zLin7 (List.mem_of_getElem? (i := 23) rfl))
theorem zqn_9_11 : Cond.not (Cond.eq (ztm 9) (ztm 11)) ∈ zPre ∨ Cond.not (Cond.eq (ztm 11) (ztm 9)) ∈ zPre := Or.inl (zLin8 (List.mem_of_getElem? (i := 16) rfl))
theorem zqn_9_12 : Cond.not (Cond.eq (ztm 9) (ztm 12)) ∈ zPre ∨ Cond.not (Cond.eq (ztm 12) (ztm 9)) ∈ zPre := Or.inl (zLin9 (List.mem_of_getElem? (i := 13) rfl))
theorem zqn_9_13 : Cond.not (Cond.eq (ztm 9) (ztm 13)) ∈ zPre ∨ Cond.not (Cond.eq (ztm 13) (ztm 9)) ∈ zPre := Or.inl (zLin10 (List.mem_of_getElem? (i := 9) rfl))
theorem zqn_9_14 : Cond.not (Cond.eq (ztm 9) (ztm 14)) ∈ zPre ∨ Cond.not (Cond.eq (ztm 14) (ztm 9)) ∈ zPre := Or.inl (zLin11 (List.mem_of_getElem? (i := 5) rfl))
theorem zqn_9_15 : Cond.not (Cond.eq (ztm 9) (ztm 15)) ∈ zPre ∨ Cond.not (Cond.eq (ztm 15) (ztm 9)) ∈ zPre := Or.inl (zLin12 (List.mem_of_getElem? (i := 3) rfl))
theorem zqn_10_11 : Cond.not (Cond.eq (ztm 10) (ztm 11)) ∈ zPre ∨ Cond.not (Cond.eq (ztm 11) (ztm 10)) ∈ zPre := Or.inl (zLin8 (List.mem_of_getElem? (i := 17) rfl))
theorem zqn_10_12 : Cond.not (Cond.eq (ztm 10) (ztm 12)) ∈ zPre ∨ Cond.not (Cond.eq (ztm 12) (ztm 10)) ∈ zPre := Or.inl (zLin9 (List.mem_of_getElem? (i := 14) rfl))
theorem zqn_10_13 : Cond.not (Cond.eq (ztm 10) (ztm 13)) ∈ zPre ∨ Cond.not (Cond.eq (ztm 13) (ztm 10)) ∈ zPre := Or.inl (zLin10 (List.mem_of_getElem? (i := 10) rfl))
theorem zqn_10_14 : Cond.not (Cond.eq (ztm 10) (ztm 14)) ∈ zPre ∨ Cond.not (Cond.eq (ztm 14) (ztm 10)) ∈ zPre := Or.inl (zLin11 (List.mem_of_getElem? (i := 6) rfl))
theorem zqn_10_15 : Cond.not (Cond.eq (ztm 10) (ztm 15)) ∈ zPre ∨ Cond.not (Cond.eq (ztm 15) (ztm 10)) ∈ zPre := Or.inl (zLin12 (List.mem_of_getElem? (i := 4) rfl))
theorem zqn_11_12 : Cond.not (Cond.eq (ztm 11) (ztm 12)) ∈ zPre ∨ Cond.not (Cond.eq (ztm 12) (ztm 11)) ∈ zPre := Or.inl (zLin9 (List.mem_of_getElem? (i := 15) rfl))
theorem zqn_11_13 : Cond.not (Cond.eq (ztm 11) (ztm 13)) ∈ zPre ∨ Cond.not (Cond.eq (ztm 13) (ztm 11)) ∈ zPre := Or.inl (zLin10 (List.mem_of_getElem? (i := 11) rfl))
theorem zqn_11_14 : Cond.not (Cond.eq (ztm 11) (ztm 14)) ∈ zPre ∨ Cond.not (Cond.eq (ztm 14) (ztm 11)) ∈ zPre := Or.inl (zLin11 (List.mem_of_getElem? (i := 7) rfl))
theorem zqn_11_15 : Cond.not (Cond.eq (ztm 11) (ztm 15)) ∈ zPre ∨ Cond.not (Cond.eq (ztm 15) (ztm 11)) ∈ zPre := Or.inl (zLin12 (List.mem_of_getElem? (i := 5) rfl))
theorem zqn_12_13 : Cond.not (Cond.eq (ztm 12) (ztm 13)) ∈ zPre ∨ Cond.not (Cond.eq (ztm 13) (ztm 12)) ∈ zPre := Or.inl (zLin10 (List.mem_of_getElem? (i := 12) rfl))
theorem zqn_12_14 : Cond.not (Cond.eq (ztm 12) (ztm 14)) ∈ zPre ∨ Cond.not (Cond.eq (ztm 14) (ztm 12)) ∈ zPre := Or.inl (zLin11 (List.mem_of_getElem? (i := 8) rfl))
theorem zqn_12_15 : Cond.not (Cond.eq (ztm 12) (ztm 15)) ∈ zPre ∨ Cond.not (Cond.eq (ztm 15) (ztm 12)) ∈ zPre := Or.inl (zLin12 (List.mem_of_getElem? (i := 6) rfl))
theorem zqn_13_14 : Cond.not (Cond.eq (ztm 13) (ztm 14)) ∈ zPre ∨ Cond.not (Cond.eq (ztm 14) (ztm 13)) ∈ zPre := Or.inl (zLin11 (List.mem_of_getElem? (i := 9) rfl))
theorem zqn_13_15 : Cond.not (Cond.eq (ztm 13) (ztm 15)) ∈ zPre ∨ Cond.not (Cond.eq (ztm 15) (ztm 13)) ∈ zPre := Or.inl (zLin12 (List.mem_of_getElem? (i := 7) rfl))
theorem zqn_14_15 : Cond.not (Cond.eq (ztm 14) (ztm 15)) ∈ zPre ∨ Cond.not (Cond.eq (ztm 15) (ztm 14)) ∈ zPre := Or.inl (zLin12 (List.mem_of_getElem? (i := 8) rfl))
theorem zqr_0 : ∀ j : Nat, j < 16 → 0 < j → (Cond.not (Cond.eq (ztm 0) (ztm j)) ∈ zPre ∨ Cond.not (Cond.eq (ztm j) (ztm 0)) ∈ zPre) := fun j hj hij => match j, hj, hij with
  | 0, _, h => absurd h (by decide)
  | 1, _, h => zqn_0_1
  | 2, _, h => zqn_0_2
  | 3, _, h => zqn_0_3
  | 4, _, h => zqn_0_4
  | 5, _, h => zqn_0_5
  | 6, _, h => zqn_0_6
  | 7, _, h => zqn_0_7
  | 8, _, h => zqn_0_8
  | 9, _, h => zqn_0_9
  | 10, _, h => zqn_0_10
  | 11, _, h => zqn_0_11
  | 12, _, h => zqn_0_12
  | 13, _, h => zqn_0_13
  | 14, _, h => zqn_0_14
  | 15, _, h => zqn_0_15
  | n + 16, h, _ => absurd h (by omega)
theorem zqr_1 : ∀ j : Nat, j < 16 → 1 < j → (Cond.not (Cond.eq (ztm 1) (ztm j)) ∈ zPre ∨ Cond.not (Cond.eq (ztm j) (ztm 1)) ∈ zPre) := fun j hj hij => match j, hj, hij with
  | 0, _, h => absurd h (by decide)
  | 1, _, h => absurd h (by decide)
  | 2, _, h => zqn_1_2
  | 3, _, h => zqn_1_3
  | 4, _, h => zqn_1_4
  | 5, _, h => zqn_1_5
  | 6, _, h => zqn_1_6
  | 7, _, h => zqn_1_7
  | 8, _, h => zqn_1_8
  | 9, _, h => zqn_1_9
  | 10, _, h => zqn_1_10
  | 11, _, h => zqn_1_11
  | 12, _, h => zqn_1_12
  | 13, _, h => zqn_1_13
  | 14, _, h => zqn_1_14
  | 15, _, h => zqn_1_15
  | n + 16, h, _ => absurd h (by omega)
theorem zqr_2 : ∀ j : Nat, j < 16 → 2 < j → (Cond.not (Cond.eq (ztm 2) (ztm j)) ∈ zPre ∨ Cond.not (Cond.eq (ztm j) (ztm 2)) ∈ zPre) := fun j hj hij => match j, hj, hij with
  | 0, _, h => absurd h (by decide)
  | 1, _, h => absurd h (by decide)
  | 2, _, h => absurd h (by decide)
  | 3, _, h => zqn_2_3
  | 4, _, h => zqn_2_4
  | 5, _, h => zqn_2_5
  | 6, _, h => zqn_2_6
  | 7, _, h => zqn_2_7
  | 8, _, h => zqn_2_8
  | 9, _, h => zqn_2_9
  | 10, _, h => zqn_2_10
  | 11, _, h => zqn_2_11
  | 12, _, h => zqn_2_12
  | 13, _, h => zqn_2_13
  | 14, _, h => zqn_2_14
  | 15, _, h => zqn_2_15
  | n + 16, h, _ => absurd h (by omega)
theorem zqr_3 : ∀ j : Nat, j < 16 → 3 < j → (Cond.not (Cond.eq (ztm 3) (ztm j)) ∈ zPre ∨ Cond.not (Cond.eq (ztm j) (ztm 3)) ∈ zPre) := fun j hj hij => match j, hj, hij with
  | 0, _, h => absurd h (by decide)
  | 1, _, h => absurd h (by decide)
  | 2, _, h => absurd h (by decide)
  | 3, _, h => absurd h (by decide)
  | 4, _, h => zqn_3_4
  | 5, _, h => zqn_3_5
  | 6, _, h => zqn_3_6
  | 7, _, h => zqn_3_7
  | 8, _, h => zqn_3_8
  | 9, _, h => zqn_3_9
  | 10, _, h => zqn_3_10
  | 11, _, h => zqn_3_11
  | 12, _, h => zqn_3_12
  | 13, _, h => zqn_3_13
  | 14, _, h => zqn_3_14
  | 15, _, h => zqn_3_15
  | n + 16, h, _ => absurd h (by omega)
theorem zqr_4 : ∀ j : Nat, j < 16 → 4 < j → (Cond.not (Cond.eq (ztm 4) (ztm j)) ∈ zPre ∨ Cond.not (Cond.eq (ztm j) (ztm 4)) ∈ zPre) := fun j hj hij => match j, hj, hij with
  | 0, _, h => absurd h (by decide)
  | 1, _, h => absurd h (by decide)
  | 2, _, h => absurd h (by decide)
  | 3, _, h => absurd h (by decide)
  | 4, _, h => absurd h (by decide)
  | 5, _, h => zqn_4_5
  | 6, _, h => zqn_4_6
  | 7, _, h => zqn_4_7
  | 8, _, h => zqn_4_8
  | 9, _, h => zqn_4_9
  | 10, _, h => zqn_4_10
  | 11, _, h => zqn_4_11
  | 12, _, h => zqn_4_12
  | 13, _, h => zqn_4_13
  | 14, _, h => zqn_4_14
  | 15, _, h => zqn_4_15
  | n + 16, h, _ => absurd h (by omega)
theorem zqr_5 : ∀ j : Nat, j < 16 → 5 < j → (Cond.not (Cond.eq (ztm 5) (ztm j)) ∈ zPre ∨ Cond.not (Cond.eq (ztm j) (ztm 5)) ∈ zPre) := fun j hj hij => match j, hj, hij with
  | 0, _, h => absurd h (by decide)
  | 1, _, h => absurd h (by decide)
  | 2, _, h => absurd h (by decide)
  | 3, _, h => absurd h (by decide)
  | 4, _, h => absurd h (by decide)
  | 5, _, h => absurd h (by decide)
  | 6, _, h => zqn_5_6
  | 7, _, h => zqn_5_7
  | 8, _, h => zqn_5_8
  | 9, _, h => zqn_5_9
  | 10, _, h => zqn_5_10
  | 11, _, h => zqn_5_11
  | 12, _, h => zqn_5_12
  | 13, _, h => zqn_5_13
  | 14, _, h => zqn_5_14
  | 15, _, h => zqn_5_15
  | n + 16, h, _ => absurd h (by omega)
theorem zqr_6 : ∀ j : Nat, j < 16 → 6 < j → (Cond.not (Cond.eq (ztm 6) (ztm j)) ∈ zPre ∨ Cond.not (Cond.eq (ztm j) (ztm 6)) ∈ zPre) := fun j hj hij => match j, hj, hij with
  | 0, _, h => absurd h (by decide)
  | 1, _, h => absurd h (by decide)
  | 2, _, h => absurd h (by decide)
  | 3, _, h => absurd h (by decide)
  | 4, _, h => absurd h (by decide)
  | 5, _, h => absurd h (by decide)
  | 6, _, h => absurd h (by decide)
  | 7, _, h => zqn_6_7
  | 8, _, h => zqn_6_8
  | 9, _, h => zqn_6_9
  | 10, _, h => zqn_6_10
  | 11, _, h => zqn_6_11
  | 12, _, h => zqn_6_12
  | 13, _, h => zqn_6_13
  | 14, _, h => zqn_6_14
  | 15, _, h => zqn_6_15
  | n + 16, h, _ => absurd h (by omega)
theorem zqr_7 : ∀ j : Nat, j < 16 → 7 < j → (Cond.not (Cond.eq (ztm 7) (ztm j)) ∈ zPre ∨ Cond.not (Cond.eq (ztm j) (ztm 7)) ∈ zPre) := fun j hj hij => match j, hj, hij with
  | 0, _, h => absurd h (by decide)
  | 1, _, h => absurd h (by decide)
  | 2, _, h => absurd h (by decide)
  | 3, _, h => absurd h (by decide)
  | 4, _, h => absurd h (by decide)
  | 5, _, h => absurd h (by decide)
  | 6, _, h => absurd h (by decide)
  | 7, _, h => absurd h (by decide)
  | 8, _, h => zqn_7_8
  | 9, _, h => zqn_7_9
  | 10, _, h => zqn_7_10
  | 11, _, h => zqn_7_11
  | 12, _, h => zqn_7_12
  | 13, _, h => zqn_7_13
  | 14, _, h => zqn_7_14
  | 15, _, h => zqn_7_15
  | n + 16, h, _ => absurd h (by omega)
theorem zqr_8 : ∀ j : Nat, j < 16 → 8 < j → (Cond.not (Cond.eq (ztm 8) (ztm j)) ∈ zPre ∨ Cond.not (Cond.eq (ztm j) (ztm 8)) ∈ zPre) := fun j hj hij => match j, hj, hij with
  | 0, _, h => absurd h (by decide)
  | 1, _, h => absurd h (by decide)
  | 2, _, h => absurd h (by decide)
  | 3, _, h => absurd h (by decide)
  | 4, _, h => absurd h (by decide)
  | 5, _, h => absurd h (by decide)
  | 6, _, h => absurd h (by decide)
  | 7, _, h => absurd h (by decide)
  | 8, _, h => absurd h (by decide)
  | 9, _, h => zqn_8_9
  | 10, _, h => zqn_8_10
  | 11, _, h => zqn_8_11
  | 12, _, h => zqn_8_12
  | 13, _, h => zqn_8_13
  | 14, _, h => zqn_8_14
  | 15, _, h => zqn_8_15
  | n + 16, h, _ => absurd h (by omega)
theorem zqr_9 : ∀ j : Nat, j < 16 → 9 < j → (Cond.not (Cond.eq (ztm 9) (ztm j)) ∈ zPre ∨ Cond.not (Cond.eq (ztm j) (ztm 9)) ∈ zPre) := fun j hj hij => match j, hj, hij with
  | 0, _, h => absurd h (by decide)
  | 1, _, h => absurd h (by decide)
  | 2, _, h => absurd h (by decide)
  | 3, _, h => absurd h (by decide)
  | 4, _, h => absurd h (by decide)
  | 5, _, h => absurd h (by decide)
  | 6, _, h => absurd h (by decide)
  | 7, _, h => absurd h (by decide)
  | 8, _, h => absurd h (by decide)
  | 9, _, h => absurd h (by decide)
  | 10, _, h => zqn_9_10
  | 11, _, h => zqn_9_11
  | 12, _, h => zqn_9_12
  | 13, _, h => zqn_9_13
  | 14, _, h => zqn_9_14
  | 15, _, h => zqn_9_15
  | n + 16, h, _ => absurd h (by omega)
theorem zqr_10 : ∀ j : Nat, j < 16 → 10 < j → (Cond.not (Cond.eq (ztm 10) (ztm j)) ∈ zPre ∨ Cond.not (Cond.eq (ztm j) (ztm 10)) ∈ zPre) := fun j hj hij => match j, hj, hij with
  | 0, _, h => absurd h (by decide)
  | 1, _, h => absurd h (by decide)
  | 2, _, h => absurd h (by decide)
  | 3, _, h => absurd h (by decide)
  | 4, _, h => absurd h (by decide)
  | 5, _, h => absurd h (by decide)
  | 6, _, h => absurd h (by decide)
  | 7, _, h => absurd h (by decide)
  | 8, _, h => absurd h (by decide)
  | 9, _, h => absurd h (by decide)
  | 10, _, h => absurd h (by decide)
  | 11, _, h => zqn_10_11
  | 12, _, h => zqn_10_12
  | 13, _, h => zqn_10_13
  | 14, _, h => zqn_10_14
  | 15, _, h => zqn_10_15
  | n + 16, h, _ => absurd h (by omega)
theorem zqr_11 : ∀ j : Nat, j < 16 → 11 < j → (Cond.not (Cond.eq (ztm 11) (ztm j)) ∈ zPre ∨ Cond.not (Cond.eq (ztm j) (ztm 11)) ∈ zPre) := fun j hj hij => match j, hj, hij with
  | 0, _, h => absurd h (by decide)
  | 1, _, h => absurd h (by decide)
  | 2, _, h => absurd h (by decide)
  | 3, _, h => absurd h (by decide)
  | 4, _, h => absurd h (by decide)
  | 5, _, h => absurd h (by decide)
  | 6, _, h => absurd h (by decide)
  | 7, _, h => absurd h (by decide)
  | 8, _, h => absurd h (by decide)
  | 9, _, h => absurd h (by decide)
  | 10, _, h => absurd h (by decide)
  | 11, _, h => absurd h (by decide)
  | 12, _, h => zqn_11_12
  | 13, _, h => zqn_11_13
  | 14, _, h => zqn_11_14
  | 15, _, h => zqn_11_15
  | n + 16, h, _ => absurd h (by omega)
theorem zqr_12 : ∀ j : Nat, j < 16 → 12 < j → (Cond.not (Cond.eq (ztm 12) (ztm j)) ∈ zPre ∨ Cond.not (Cond.eq (ztm j) (ztm 12)) ∈ zPre) := fun j hj hij => match j, hj, hij with
  | 0, _, h => absurd h (by decide)
  | 1, _, h => absurd h (by decide)
  | 2, _, h => absurd h (by decide)
  | 3, _, h => absurd h (by decide)
  | 4, _, h => absurd h (by decide)
  | 5, _, h => absurd h (by decide)
  | 6, _, h => absurd h (by decide)
  | 7, _, h => absurd h (by decide)
  | 8, _, h => absurd h (by decide)
  | 9, _, h => absurd h (by decide)
  | 10, _, h => absurd h (by decide)
  | 11, _, h => absurd h (by decide)
  | 12, _, h => absurd h (by decide)
  | 13, _, h => zqn_12_13
  | 14, _, h => zqn_12_14
  | 15, _, h => zqn_12_15
  | n + 16, h, _ => absurd h (by omega)
theorem zqr_13 : ∀ j : Nat, j < 16 → 13 < j → (Cond.not (Cond.eq (ztm 13) (ztm j)) ∈ zPre ∨ Cond.not (Cond.eq (ztm j) (ztm 13)) ∈ zPre) := fun j hj hij => match j, hj, hij with
  | 0, _, h => absurd h (by decide)
  | 1, _, h => absurd h (by decide)
  | 2, _, h => absurd h (by decide)
  | 3, _, h => absurd h (by decide)
  | 4, _, h => absurd h (by decide)
  | 5, _, h => absurd h (by decide)
  | 6, _, h => absurd h (by decide)
  | 7, _, h => absurd h (by decide)
  | 8, _, h => absurd h (by decide)
  | 9, _, h => absurd h (by decide)
  | 10, _, h => absurd h (by decide)
  | 11, _, h => absurd h (by decide)
  | 12, _, h => absurd h (by decide)
  | 13, _, h => absurd h (by decide)
  | 14, _, h => zqn_13_14
  | 15, _, h => zqn_13_15
  | n + 16, h, _ => absurd h (by omega)
theorem zqr_14 : ∀ j : Nat, j < 16 → 14 < j → (Cond.not (Cond.eq (ztm 14) (ztm j)) ∈ zPre ∨ Cond.not (Cond.eq (ztm j) (ztm 14)) ∈ zPre) := fun j hj hij => match j, hj, hij with
  | 0, _, h => absurd h (by decide)
  | 1, _, h => absurd h (by decide)
  | 2, _, h => absurd h (by decide)
  | 3, _, h => absurd h (by decide)
  | 4, _, h => absurd h (by decide)
  | 5, _, h => absurd h (by decide)
  | 6, _, h => absurd h (by decide)
  | 7, _, h => absurd h (by decide)
  | 8, _, h => absurd h (by decide)
  | 9, _, h => absurd h (by decide)
  | 10, _, h => absurd h (by decide)
  | 11, _, h => absurd h (by decide)
  | 12, _, h => absurd h (by decide)
  | 13, _, h => absurd h (by decide)
  | 14, _, h => absurd h (by decide)
  | 15, _, h => zqn_14_15
  | n + 16, h, _ => absurd h (by omega)
theorem zqr_15 : ∀ j : Nat, j < 16 → 15 < j → (Cond.not (Cond.eq (ztm 15) (ztm j)) ∈ zPre ∨ Cond.not (Cond.eq (ztm j) (ztm 15)) ∈ zPre) := fun j hj hij => match j, hj, hij with
  | 0, _, h => absurd h (by decide)
  | 1, _, h => absurd h (by decide)
  | 2, _, h => absurd h (by decide)
  | 3, _, h => absurd h (by decide)
  | 4, _, h => absurd h (by decide)
  | 5, _, h => absurd h (by decide)
  | 6, _, h => absurd h (by decide)
  | 7, _, h => absurd h (by decide)
  | 8, _, h => absurd h (by decide)
  | 9, _, h => absurd h (by decide)
  | 10, _, h => absurd h (by decide)
  | 11, _, h => absurd h (by decide)
  | 12, _, h => absurd h (by decide)
  | 13, _, h => absurd h (by decide)
  | 14, _, h => absurd h (by decide)
  | 15, _, h => absurd h (by decide)
  | n + 16, h, _ => absurd h (by omega)
theorem zq_lt : ∀ i : Nat, i < 16 → ∀ j : Nat, j < 16 → i < j → (Cond.not (Cond.eq (ztm i) (ztm j)) ∈ zPre ∨ Cond.not (Cond.eq (ztm j) (ztm i)) ∈ zPre) := fun i hi => match i, hi with
  | 0, _ => zqr_0
  | 1, _ => zqr_1
  | 2, _ => zqr_2
  | 3, _ => zqr_3
  | 4, _ => zqr_4
  | 5, _ => zqr_5
  | 6, _ => zqr_6
  | 7, _ => zqr_7
  | 8, _ => zqr_8
  | 9, _ => zqr_9
  | 10, _ => zqr_10
  | 11, _ => zqr_11
  | 12, _ => zqr_12
  | 13, _ => zqr_13
  | 14, _ => zqr_14
  | 15, _ => zqr_15
  | n + 16, h => absurd h (by omega)
theorem zq_ne : ∀ i : Nat, i < 16 → ∀ j : Nat, j < 16 → i ≠ j → (Cond.not (Cond.eq (ztm i) (ztm j)) ∈ zPre ∨ Cond.not (Cond.eq (ztm j) (ztm i)) ∈ zPre) := by
  intro i hi j hj hij
  rcases Nat.lt_or_gt_of_ne hij with h | h
  · exact zq_lt i hi j hj h
  · exact (zq_lt j hj i hi h).symm
theorem zq_cs : Cond.eq (.static "java/lang/String" "COMPACT_STRINGS" "Z") (.int 1) ∈ zPre := zLin0 (List.mem_of_getElem? (i := 6) rfl)
theorem zq_sf : Cond.isRef (.static "jdk/internal/util/Preconditions" "SIOOBE_FORMATTER" "Ljava/util/function/BiFunction;") ∈ zPre := zLin0 (List.mem_of_getElem? (i := 7) rfl)
theorem zq_us : Cond.isRef (.static "java/lang/Throwable" "UNASSIGNED_STACK" "[Ljava/lang/StackTraceElement;") ∈ zPre := zLin0 (List.mem_of_getElem? (i := 4) rfl)
theorem zq_ss : Cond.isRef (.static "java/lang/Throwable" "SUPPRESSED_SENTINEL" "Ljava/util/List;") ∈ zPre := zLin0 (List.mem_of_getElem? (i := 5) rfl)
theorem zq_len : ∀ i : Nat, i < 16 → zlenL.getD i 0 < 2 ^ 31 := by decide +kernel
theorem zqk_11 : (Jvm.Cond.not (Jvm.Cond.castable "ContraryChairs" "java/lang/IllegalArgumentException")) ∈ zPre := zLin0 (List.mem_of_getElem? (i := 11) rfl)
theorem zqk_12 : (Jvm.Cond.not (Jvm.Cond.castable "ContraryChairs$Tape" "java/lang/IllegalArgumentException")) ∈ zPre := zLin0 (List.mem_of_getElem? (i := 12) rfl)
theorem zqk_13 : (Jvm.Cond.not (Jvm.Cond.castable "ContraryChairs$Academy" "java/lang/IllegalArgumentException")) ∈ zPre := zLin0 (List.mem_of_getElem? (i := 13) rfl)
theorem zqk_14 : (Jvm.Cond.not (Jvm.Cond.castable "ContraryChairs$Law" "java/lang/IllegalArgumentException")) ∈ zPre := zLin0 (List.mem_of_getElem? (i := 14) rfl)
theorem zqk_15 : (Jvm.Cond.not (Jvm.Cond.castable "ContraryChairs$Book" "java/lang/IllegalArgumentException")) ∈ zPre := zLin0 (List.mem_of_getElem? (i := 15) rfl)
theorem zqk_16 : (Jvm.Cond.not (Jvm.Cond.castable "ContraryChairs$Row" "java/lang/IllegalArgumentException")) ∈ zPre := zLin0 (List.mem_of_getElem? (i := 16) rfl)
theorem zqk_17 : (Jvm.Cond.not (Jvm.Cond.castable "ContraryChairs$Calendar" "java/lang/IllegalArgumentException")) ∈ zPre := zLin0 (List.mem_of_getElem? (i := 17) rfl)
theorem zqk_18 : (Jvm.Cond.not (Jvm.Cond.castable "ContraryChairs$Foresight" "java/lang/IllegalArgumentException")) ∈ zPre := zLin0 (List.mem_of_getElem? (i := 18) rfl)
theorem zqk_19 : (Jvm.Cond.not (Jvm.Cond.castable "ContraryChairs$Records" "java/lang/IllegalArgumentException")) ∈ zPre := zLin0 (List.mem_of_getElem? (i := 19) rfl)
theorem zqk_20 : (Jvm.Cond.not (Jvm.Cond.castable "ContraryChairs$Company" "java/lang/IllegalArgumentException")) ∈ zPre := zLin0 (List.mem_of_getElem? (i := 20) rfl)
theorem zqk_21 : (Jvm.Cond.not (Jvm.Cond.castable "ContraryChairsModel" "java/lang/IllegalArgumentException")) ∈ zPre := zLin0 (List.mem_of_getElem? (i := 21) rfl)
theorem zqk_22 : (Jvm.Cond.not (Jvm.Cond.castable "java/util/NoSuchElementException" "java/lang/IllegalArgumentException")) ∈ zPre := zLin0 (List.mem_of_getElem? (i := 22) rfl)
theorem zqk_23 : (Jvm.Cond.not (Jvm.Cond.castable "ContraryChairs" "java/util/NoSuchElementException")) ∈ zPre := zLin0 (List.mem_of_getElem? (i := 23) rfl)
theorem zqk_24 : (Jvm.Cond.not (Jvm.Cond.castable "ContraryChairs$Tape" "java/util/NoSuchElementException")) ∈ zPre := zLin1 (List.mem_of_getElem? (i := 0) rfl)
theorem zqk_25 : (Jvm.Cond.not (Jvm.Cond.castable "ContraryChairs$Academy" "java/util/NoSuchElementException")) ∈ zPre := zLin1 (List.mem_of_getElem? (i := 1) rfl)
theorem zqk_26 : (Jvm.Cond.not (Jvm.Cond.castable "ContraryChairs$Law" "java/util/NoSuchElementException")) ∈ zPre := zLin1 (List.mem_of_getElem? (i := 2) rfl)
theorem zqk_27 : (Jvm.Cond.not (Jvm.Cond.castable "ContraryChairs$Book" "java/util/NoSuchElementException")) ∈ zPre := zLin1 (List.mem_of_getElem? (i := 3) rfl)
theorem zqk_28 : (Jvm.Cond.not (Jvm.Cond.castable "ContraryChairs$Row" "java/util/NoSuchElementException")) ∈ zPre := zLin1 (List.mem_of_getElem? (i := 4) rfl)
theorem zqk_29 : (Jvm.Cond.not (Jvm.Cond.castable "ContraryChairs$Calendar" "java/util/NoSuchElementException")) ∈ zPre := zLin1 (List.mem_of_getElem? (i := 5) rfl)
theorem zqk_30 : (Jvm.Cond.not (Jvm.Cond.castable "ContraryChairs$Foresight" "java/util/NoSuchElementException")) ∈ zPre := zLin1 (List.mem_of_getElem? (i := 6) rfl)
theorem zqk_31 : (Jvm.Cond.not (Jvm.Cond.castable "ContraryChairs$Records" "java/util/NoSuchElementException")) ∈ zPre := zLin1 (List.mem_of_getElem? (i := 7) rfl)
theorem zqk_32 : (Jvm.Cond.not (Jvm.Cond.castable "ContraryChairs$Company" "java/util/NoSuchElementException")) ∈ zPre := zLin1 (List.mem_of_getElem? (i := 8) rfl)
theorem zqk_33 : (Jvm.Cond.not (Jvm.Cond.castable "ContraryChairsModel" "java/util/NoSuchElementException")) ∈ zPre := zLin1 (List.mem_of_getElem? (i := 9) rfl)
theorem zqk_34 : (Jvm.Cond.not (Jvm.Cond.castable "java/lang/IllegalArgumentException" "java/util/NoSuchElementException")) ∈ zPre := zLin1 (List.mem_of_getElem? (i := 10) rfl)
