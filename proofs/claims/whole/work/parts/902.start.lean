/-! the start: what the Statement gives, as SK -/
abbrev flT0 : List Cond := flatC (Jvm.Cond.and given_1 narrow_1)
theorem fT1 : (Jvm.Cond.arrayOf (Jvm.Term.static "SinLenses" "MOST_OF_TERMS" "[I") Jvm.ClassFile.FieldType.int) ∈ flT0 := List.mem_of_getElem? (i := 5) rfl
theorem fT2 : (Jvm.Cond.eq (Jvm.Term.length (Jvm.Term.static "SinLenses" "MOST_OF_TERMS" "[I")) (Jvm.Term.int (4 : Int32))) ∈ flT0 := List.mem_of_getElem? (i := 6) rfl
theorem fT3_0 : (Jvm.Cond.eq (Jvm.Term.elem (Jvm.Term.static "SinLenses" "MOST_OF_TERMS" "[I") (Jvm.Term.int (0 : Int32))) (Jvm.Term.int (999 : Int32))) ∈ flT0 := List.mem_of_getElem? (i := 7) rfl
theorem fT3_1 : (Jvm.Cond.eq (Jvm.Term.elem (Jvm.Term.static "SinLenses" "MOST_OF_TERMS" "[I") (Jvm.Term.int (1 : Int32))) (Jvm.Term.int (10 : Int32))) ∈ flT0 := List.mem_of_getElem? (i := 8) rfl
theorem fT3_2 : (Jvm.Cond.eq (Jvm.Term.elem (Jvm.Term.static "SinLenses" "MOST_OF_TERMS" "[I") (Jvm.Term.int (2 : Int32))) (Jvm.Term.int (9 : Int32))) ∈ flT0 := List.mem_of_getElem? (i := 9) rfl
theorem fT3_3 : (Jvm.Cond.eq (Jvm.Term.elem (Jvm.Term.static "SinLenses" "MOST_OF_TERMS" "[I") (Jvm.Term.int (3 : Int32))) (Jvm.Term.int (255 : Int32))) ∈ flT0 := List.mem_of_getElem? (i := 10) rfl
theorem fC1 : (Jvm.Cond.eq (Jvm.Term.static "java/lang/String" "COMPACT_STRINGS" "Z") (Jvm.Term.int (1 : Int32))) ∈ flT0 := List.mem_of_getElem? (i := 11) rfl
theorem fF1 : (Jvm.Cond.isRef (Jvm.Term.static "jdk/internal/util/Preconditions" "SIOOBE_FORMATTER" "Ljava/util/function/BiFunction;")) ∈ flT0 := List.mem_of_getElem? (i := 12) rfl
theorem fS1 : (Jvm.Cond.exactly (Jvm.Term.string "SinLenses$Reader" (90 : Nat)) "java/lang/String") ∈ flT0 := List.mem_of_getElem? (i := 38) rfl
theorem fS2 : (Jvm.Cond.eq (Jvm.Term.field (Jvm.Term.string "SinLenses$Reader" (90 : Nat)) "java/lang/String" "coder" "B") (Jvm.Term.int (0 : Int32))) ∈ flT0 := List.mem_of_getElem? (i := 39) rfl
theorem fS3 : (Jvm.Cond.arrayOf (Jvm.Term.field (Jvm.Term.string "SinLenses$Reader" (90 : Nat)) "java/lang/String" "value" "[B") Jvm.ClassFile.FieldType.byte) ∈ flT0 := List.mem_of_getElem? (i := 40) rfl
theorem fS4 : (Jvm.Cond.eq (Jvm.Term.length (Jvm.Term.field (Jvm.Term.string "SinLenses$Reader" (90 : Nat)) "java/lang/String" "value" "[B")) (Jvm.Term.int (137 : Int32))) ∈ flT0 := List.mem_of_getElem? (i := 41) rfl
theorem fE_0 : (Jvm.Cond.eq (Jvm.Term.elem (Jvm.Term.field (Jvm.Term.string "SinLenses$Reader" (90 : Nat)) "java/lang/String" "value" "[B") (Jvm.Term.int (0 : Int32))) (Jvm.Term.int (103 : Int32))) ∈ flT0 := List.mem_of_getElem? (i := 42) rfl
theorem fE_1 : (Jvm.Cond.eq (Jvm.Term.elem (Jvm.Term.field (Jvm.Term.string "SinLenses$Reader" (90 : Nat)) "java/lang/String" "value" "[B") (Jvm.Term.int (1 : Int32))) (Jvm.Term.int (114 : Int32))) ∈ flT0 := List.mem_of_getElem? (i := 43) rfl
theorem fE_2 : (Jvm.Cond.eq (Jvm.Term.elem (Jvm.Term.field (Jvm.Term.string "SinLenses$Reader" (90 : Nat)) "java/lang/String" "value" "[B") (Jvm.Term.int (2 : Int32))) (Jvm.Term.int (105 : Int32))) ∈ flT0 := List.mem_of_getElem? (i := 44) rfl
theorem fE_3 : (Jvm.Cond.eq (Jvm.Term.elem (Jvm.Term.field (Jvm.Term.string "SinLenses$Reader" (90 : Nat)) "java/lang/String" "value" "[B") (Jvm.Term.int (3 : Int32))) (Jvm.Term.int (110 : Int32))) ∈ flT0 := List.mem_of_getElem? (i := 45) rfl
theorem fE_4 : (Jvm.Cond.eq (Jvm.Term.elem (Jvm.Term.field (Jvm.Term.string "SinLenses$Reader" (90 : Nat)) "java/lang/String" "value" "[B") (Jvm.Term.int (4 : Int32))) (Jvm.Term.int (100 : Int32))) ∈ flT0 := List.mem_of_getElem? (i := 46) rfl
theorem fE_5 : (Jvm.Cond.eq (Jvm.Term.elem (Jvm.Term.field (Jvm.Term.string "SinLenses$Reader" (90 : Nat)) "java/lang/String" "value" "[B") (Jvm.Term.int (5 : Int32))) (Jvm.Term.int (115 : Int32))) ∈ flT0 := List.mem_of_getElem? (i := 47) rfl
theorem fE_6 : (Jvm.Cond.eq (Jvm.Term.elem (Jvm.Term.field (Jvm.Term.string "SinLenses$Reader" (90 : Nat)) "java/lang/String" "value" "[B") (Jvm.Term.int (6 : Int32))) (Jvm.Term.int (32 : Int32))) ∈ flT0 := List.mem_of_getElem? (i := 48) rfl
theorem fE_7 : (Jvm.Cond.eq (Jvm.Term.elem (Jvm.Term.field (Jvm.Term.string "SinLenses$Reader" (90 : Nat)) "java/lang/String" "value" "[B") (Jvm.Term.int (7 : Int32))) (Jvm.Term.int (103 : Int32))) ∈ flT0 := List.mem_of_getElem? (i := 49) rfl
theorem fE_8 : (Jvm.Cond.eq (Jvm.Term.elem (Jvm.Term.field (Jvm.Term.string "SinLenses$Reader" (90 : Nat)) "java/lang/String" "value" "[B") (Jvm.Term.int (8 : Int32))) (Jvm.Term.int (114 : Int32))) ∈ flT0 := List.mem_of_getElem? (i := 50) rfl
theorem fE_9 : (Jvm.Cond.eq (Jvm.Term.elem (Jvm.Term.field (Jvm.Term.string "SinLenses$Reader" (90 : Nat)) "java/lang/String" "value" "[B") (Jvm.Term.int (9 : Int32))) (Jvm.Term.int (111 : Int32))) ∈ flT0 := List.mem_of_getElem? (i := 51) rfl
theorem fE_10 : (Jvm.Cond.eq (Jvm.Term.elem (Jvm.Term.field (Jvm.Term.string "SinLenses$Reader" (90 : Nat)) "java/lang/String" "value" "[B") (Jvm.Term.int (10 : Int32))) (Jvm.Term.int (119 : Int32))) ∈ flT0 := List.mem_of_getElem? (i := 52) rfl
theorem fE_11 : (Jvm.Cond.eq (Jvm.Term.elem (Jvm.Term.field (Jvm.Term.string "SinLenses$Reader" (90 : Nat)) "java/lang/String" "value" "[B") (Jvm.Term.int (11 : Int32))) (Jvm.Term.int (115 : Int32))) ∈ flT0 := List.mem_of_getElem? (i := 53) rfl
theorem fE_12 : (Jvm.Cond.eq (Jvm.Term.elem (Jvm.Term.field (Jvm.Term.string "SinLenses$Reader" (90 : Nat)) "java/lang/String" "value" "[B") (Jvm.Term.int (12 : Int32))) (Jvm.Term.int (32 : Int32))) ∈ flT0 := List.mem_of_getElem? (i := 54) rfl
theorem fE_13 : (Jvm.Cond.eq (Jvm.Term.elem (Jvm.Term.field (Jvm.Term.string "SinLenses$Reader" (90 : Nat)) "java/lang/String" "value" "[B") (Jvm.Term.int (13 : Int32))) (Jvm.Term.int (100 : Int32))) ∈ flT0 := List.mem_of_getElem? (i := 55) rfl
theorem fE_14 : (Jvm.Cond.eq (Jvm.Term.elem (Jvm.Term.field (Jvm.Term.string "SinLenses$Reader" (90 : Nat)) "java/lang/String" "value" "[B") (Jvm.Term.int (14 : Int32))) (Jvm.Term.int (111 : Int32))) ∈ flT0 := List.mem_of_getElem? (i := 56) rfl
theorem fE_15 : (Jvm.Cond.eq (Jvm.Term.elem (Jvm.Term.field (Jvm.Term.string "SinLenses$Reader" (90 : Nat)) "java/lang/String" "value" "[B") (Jvm.Term.int (15 : Int32))) (Jvm.Term.int (101 : Int32))) ∈ flT0 := List.mem_of_getElem? (i := 57) rfl
theorem fE_16 : (Jvm.Cond.eq (Jvm.Term.elem (Jvm.Term.field (Jvm.Term.string "SinLenses$Reader" (90 : Nat)) "java/lang/String" "value" "[B") (Jvm.Term.int (16 : Int32))) (Jvm.Term.int (115 : Int32))) ∈ flT0 := List.mem_of_getElem? (i := 58) rfl
theorem fE_17 : (Jvm.Cond.eq (Jvm.Term.elem (Jvm.Term.field (Jvm.Term.string "SinLenses$Reader" (90 : Nat)) "java/lang/String" "value" "[B") (Jvm.Term.int (17 : Int32))) (Jvm.Term.int (32 : Int32))) ∈ flT0 := List.mem_of_getElem? (i := 59) rfl
theorem fE_18 : (Jvm.Cond.eq (Jvm.Term.elem (Jvm.Term.field (Jvm.Term.string "SinLenses$Reader" (90 : Nat)) "java/lang/String" "value" "[B") (Jvm.Term.int (18 : Int32))) (Jvm.Term.int (98 : Int32))) ∈ flT0 := List.mem_of_getElem? (i := 60) rfl
theorem fE_19 : (Jvm.Cond.eq (Jvm.Term.elem (Jvm.Term.field (Jvm.Term.string "SinLenses$Reader" (90 : Nat)) "java/lang/String" "value" "[B") (Jvm.Term.int (19 : Int32))) (Jvm.Term.int (97 : Int32))) ∈ flT0 := List.mem_of_getElem? (i := 61) rfl
theorem fE_20 : (Jvm.Cond.eq (Jvm.Term.elem (Jvm.Term.field (Jvm.Term.string "SinLenses$Reader" (90 : Nat)) "java/lang/String" "value" "[B") (Jvm.Term.int (20 : Int32))) (Jvm.Term.int (114 : Int32))) ∈ flT0 := List.mem_of_getElem? (i := 62) rfl
theorem fE_21 : (Jvm.Cond.eq (Jvm.Term.elem (Jvm.Term.field (Jvm.Term.string "SinLenses$Reader" (90 : Nat)) "java/lang/String" "value" "[B") (Jvm.Term.int (21 : Int32))) (Jvm.Term.int (115 : Int32))) ∈ flT0 := List.mem_of_getElem? (i := 63) rfl
theorem fE_22 : (Jvm.Cond.eq (Jvm.Term.elem (Jvm.Term.field (Jvm.Term.string "SinLenses$Reader" (90 : Nat)) "java/lang/String" "value" "[B") (Jvm.Term.int (22 : Int32))) (Jvm.Term.int (32 : Int32))) ∈ flT0 := List.mem_of_getElem? (i := 64) rfl
theorem fE_23 : (Jvm.Cond.eq (Jvm.Term.elem (Jvm.Term.field (Jvm.Term.string "SinLenses$Reader" (90 : Nat)) "java/lang/String" "value" "[B") (Jvm.Term.int (23 : Int32))) (Jvm.Term.int (115 : Int32))) ∈ flT0 := List.mem_of_getElem? (i := 65) rfl
theorem fE_24 : (Jvm.Cond.eq (Jvm.Term.elem (Jvm.Term.field (Jvm.Term.string "SinLenses$Reader" (90 : Nat)) "java/lang/String" "value" "[B") (Jvm.Term.int (24 : Int32))) (Jvm.Term.int (105 : Int32))) ∈ flT0 := List.mem_of_getElem? (i := 66) rfl
theorem fE_25 : (Jvm.Cond.eq (Jvm.Term.elem (Jvm.Term.field (Jvm.Term.string "SinLenses$Reader" (90 : Nat)) "java/lang/String" "value" "[B") (Jvm.Term.int (25 : Int32))) (Jvm.Term.int (110 : Int32))) ∈ flT0 := List.mem_of_getElem? (i := 67) rfl
theorem fE_26 : (Jvm.Cond.eq (Jvm.Term.elem (Jvm.Term.field (Jvm.Term.string "SinLenses$Reader" (90 : Nat)) "java/lang/String" "value" "[B") (Jvm.Term.int (26 : Int32))) (Jvm.Term.int (32 : Int32))) ∈ flT0 := List.mem_of_getElem? (i := 68) rfl
theorem fE_27 : (Jvm.Cond.eq (Jvm.Term.elem (Jvm.Term.field (Jvm.Term.string "SinLenses$Reader" (90 : Nat)) "java/lang/String" "value" "[B") (Jvm.Term.int (27 : Int32))) (Jvm.Term.int (103 : Int32))) ∈ flT0 := List.mem_of_getElem? (i := 69) rfl
theorem fE_28 : (Jvm.Cond.eq (Jvm.Term.elem (Jvm.Term.field (Jvm.Term.string "SinLenses$Reader" (90 : Nat)) "java/lang/String" "value" "[B") (Jvm.Term.int (28 : Int32))) (Jvm.Term.int (114 : Int32))) ∈ flT0 := List.mem_of_getElem? (i := 70) rfl
theorem fE_29 : (Jvm.Cond.eq (Jvm.Term.elem (Jvm.Term.field (Jvm.Term.string "SinLenses$Reader" (90 : Nat)) "java/lang/String" "value" "[B") (Jvm.Term.int (29 : Int32))) (Jvm.Term.int (105 : Int32))) ∈ flT0 := List.mem_of_getElem? (i := 71) rfl
theorem fE_30 : (Jvm.Cond.eq (Jvm.Term.elem (Jvm.Term.field (Jvm.Term.string "SinLenses$Reader" (90 : Nat)) "java/lang/String" "value" "[B") (Jvm.Term.int (30 : Int32))) (Jvm.Term.int (110 : Int32))) ∈ flT0 := List.mem_of_getElem? (i := 72) rfl
theorem fE_31 : (Jvm.Cond.eq (Jvm.Term.elem (Jvm.Term.field (Jvm.Term.string "SinLenses$Reader" (90 : Nat)) "java/lang/String" "value" "[B") (Jvm.Term.int (31 : Int32))) (Jvm.Term.int (100 : Int32))) ∈ flT0 := List.mem_of_getElem? (i := 73) rfl
theorem fE_32 : (Jvm.Cond.eq (Jvm.Term.elem (Jvm.Term.field (Jvm.Term.string "SinLenses$Reader" (90 : Nat)) "java/lang/String" "value" "[B") (Jvm.Term.int (32 : Int32))) (Jvm.Term.int (32 : Int32))) ∈ flT0 := List.mem_of_getElem? (i := 74) rfl
theorem fE_33 : (Jvm.Cond.eq (Jvm.Term.elem (Jvm.Term.field (Jvm.Term.string "SinLenses$Reader" (90 : Nat)) "java/lang/String" "value" "[B") (Jvm.Term.int (33 : Int32))) (Jvm.Term.int (115 : Int32))) ∈ flT0 := List.mem_of_getElem? (i := 75) rfl
theorem fE_34 : (Jvm.Cond.eq (Jvm.Term.elem (Jvm.Term.field (Jvm.Term.string "SinLenses$Reader" (90 : Nat)) "java/lang/String" "value" "[B") (Jvm.Term.int (34 : Int32))) (Jvm.Term.int (119 : Int32))) ∈ flT0 := List.mem_of_getElem? (i := 76) rfl
theorem fE_35 : (Jvm.Cond.eq (Jvm.Term.elem (Jvm.Term.field (Jvm.Term.string "SinLenses$Reader" (90 : Nat)) "java/lang/String" "value" "[B") (Jvm.Term.int (35 : Int32))) (Jvm.Term.int (97 : Int32))) ∈ flT0 := List.mem_of_getElem? (i := 77) rfl
theorem fE_36 : (Jvm.Cond.eq (Jvm.Term.elem (Jvm.Term.field (Jvm.Term.string "SinLenses$Reader" (90 : Nat)) "java/lang/String" "value" "[B") (Jvm.Term.int (36 : Int32))) (Jvm.Term.int (112 : Int32))) ∈ flT0 := List.mem_of_getElem? (i := 78) rfl
theorem fE_37 : (Jvm.Cond.eq (Jvm.Term.elem (Jvm.Term.field (Jvm.Term.string "SinLenses$Reader" (90 : Nat)) "java/lang/String" "value" "[B") (Jvm.Term.int (37 : Int32))) (Jvm.Term.int (32 : Int32))) ∈ flT0 := List.mem_of_getElem? (i := 79) rfl
theorem fE_38 : (Jvm.Cond.eq (Jvm.Term.elem (Jvm.Term.field (Jvm.Term.string "SinLenses$Reader" (90 : Nat)) "java/lang/String" "value" "[B") (Jvm.Term.int (38 : Int32))) (Jvm.Term.int (99 : Int32))) ∈ flT0 := List.mem_of_getElem? (i := 80) rfl
theorem fE_39 : (Jvm.Cond.eq (Jvm.Term.elem (Jvm.Term.field (Jvm.Term.string "SinLenses$Reader" (90 : Nat)) "java/lang/String" "value" "[B") (Jvm.Term.int (39 : Int32))) (Jvm.Term.int (108 : Int32))) ∈ flT0 := List.mem_of_getElem? (i := 81) rfl
theorem fE_40 : (Jvm.Cond.eq (Jvm.Term.elem (Jvm.Term.field (Jvm.Term.string "SinLenses$Reader" (90 : Nat)) "java/lang/String" "value" "[B") (Jvm.Term.int (40 : Int32))) (Jvm.Term.int (111 : Int32))) ∈ flT0 := List.mem_of_getElem? (i := 82) rfl
theorem fE_41 : (Jvm.Cond.eq (Jvm.Term.elem (Jvm.Term.field (Jvm.Term.string "SinLenses$Reader" (90 : Nat)) "java/lang/String" "value" "[B") (Jvm.Term.int (41 : Int32))) (Jvm.Term.int (116 : Int32))) ∈ flT0 := List.mem_of_getElem? (i := 83) rfl
theorem fE_42 : (Jvm.Cond.eq (Jvm.Term.elem (Jvm.Term.field (Jvm.Term.string "SinLenses$Reader" (90 : Nat)) "java/lang/String" "value" "[B") (Jvm.Term.int (42 : Int32))) (Jvm.Term.int (104 : Int32))) ∈ flT0 := List.mem_of_getElem? (i := 84) rfl
theorem fE_43 : (Jvm.Cond.eq (Jvm.Term.elem (Jvm.Term.field (Jvm.Term.string "SinLenses$Reader" (90 : Nat)) "java/lang/String" "value" "[B") (Jvm.Term.int (43 : Int32))) (Jvm.Term.int (32 : Int32))) ∈ flT0 := List.mem_of_getElem? (i := 85) rfl
theorem fE_44 : (Jvm.Cond.eq (Jvm.Term.elem (Jvm.Term.field (Jvm.Term.string "SinLenses$Reader" (90 : Nat)) "java/lang/String" "value" "[B") (Jvm.Term.int (44 : Int32))) (Jvm.Term.int (112 : Int32))) ∈ flT0 := List.mem_of_getElem? (i := 86) rfl
theorem fE_45 : (Jvm.Cond.eq (Jvm.Term.elem (Jvm.Term.field (Jvm.Term.string "SinLenses$Reader" (90 : Nat)) "java/lang/String" "value" "[B") (Jvm.Term.int (45 : Int32))) (Jvm.Term.int (97 : Int32))) ∈ flT0 := List.mem_of_getElem? (i := 87) rfl
theorem fE_46 : (Jvm.Cond.eq (Jvm.Term.elem (Jvm.Term.field (Jvm.Term.string "SinLenses$Reader" (90 : Nat)) "java/lang/String" "value" "[B") (Jvm.Term.int (46 : Int32))) (Jvm.Term.int (115 : Int32))) ∈ flT0 := List.mem_of_getElem? (i := 88) rfl
theorem fE_47 : (Jvm.Cond.eq (Jvm.Term.elem (Jvm.Term.field (Jvm.Term.string "SinLenses$Reader" (90 : Nat)) "java/lang/String" "value" "[B") (Jvm.Term.int (47 : Int32))) (Jvm.Term.int (115 : Int32))) ∈ flT0 := List.mem_of_getElem? (i := 89) rfl
theorem fE_48 : (Jvm.Cond.eq (Jvm.Term.elem (Jvm.Term.field (Jvm.Term.string "SinLenses$Reader" (90 : Nat)) "java/lang/String" "value" "[B") (Jvm.Term.int (48 : Int32))) (Jvm.Term.int (32 : Int32))) ∈ flT0 := List.mem_of_getElem? (i := 90) rfl
theorem fE_49 : (Jvm.Cond.eq (Jvm.Term.elem (Jvm.Term.field (Jvm.Term.string "SinLenses$Reader" (90 : Nat)) "java/lang/String" "value" "[B") (Jvm.Term.int (49 : Int32))) (Jvm.Term.int (105 : Int32))) ∈ flT0 := List.mem_of_getElem? (i := 91) rfl
theorem fE_50 : (Jvm.Cond.eq (Jvm.Term.elem (Jvm.Term.field (Jvm.Term.string "SinLenses$Reader" (90 : Nat)) "java/lang/String" "value" "[B") (Jvm.Term.int (50 : Int32))) (Jvm.Term.int (102 : Int32))) ∈ flT0 := List.mem_of_getElem? (i := 92) rfl
theorem fE_51 : (Jvm.Cond.eq (Jvm.Term.elem (Jvm.Term.field (Jvm.Term.string "SinLenses$Reader" (90 : Nat)) "java/lang/String" "value" "[B") (Jvm.Term.int (51 : Int32))) (Jvm.Term.int (32 : Int32))) ∈ flT0 := List.mem_of_getElem? (i := 93) rfl
theorem fE_52 : (Jvm.Cond.eq (Jvm.Term.elem (Jvm.Term.field (Jvm.Term.string "SinLenses$Reader" (90 : Nat)) "java/lang/String" "value" "[B") (Jvm.Term.int (52 : Int32))) (Jvm.Term.int (116 : Int32))) ∈ flT0 := List.mem_of_getElem? (i := 94) rfl
theorem fE_53 : (Jvm.Cond.eq (Jvm.Term.elem (Jvm.Term.field (Jvm.Term.string "SinLenses$Reader" (90 : Nat)) "java/lang/String" "value" "[B") (Jvm.Term.int (53 : Int32))) (Jvm.Term.int (105 : Int32))) ∈ flT0 := List.mem_of_getElem? (i := 95) rfl
theorem fE_54 : (Jvm.Cond.eq (Jvm.Term.elem (Jvm.Term.field (Jvm.Term.string "SinLenses$Reader" (90 : Nat)) "java/lang/String" "value" "[B") (Jvm.Term.int (54 : Int32))) (Jvm.Term.int (109 : Int32))) ∈ flT0 := List.mem_of_getElem? (i := 96) rfl
theorem fE_55 : (Jvm.Cond.eq (Jvm.Term.elem (Jvm.Term.field (Jvm.Term.string "SinLenses$Reader" (90 : Nat)) "java/lang/String" "value" "[B") (Jvm.Term.int (55 : Int32))) (Jvm.Term.int (101 : Int32))) ∈ flT0 := List.mem_of_getElem? (i := 97) rfl
theorem fE_56 : (Jvm.Cond.eq (Jvm.Term.elem (Jvm.Term.field (Jvm.Term.string "SinLenses$Reader" (90 : Nat)) "java/lang/String" "value" "[B") (Jvm.Term.int (56 : Int32))) (Jvm.Term.int (115 : Int32))) ∈ flT0 := List.mem_of_getElem? (i := 98) rfl
theorem fE_57 : (Jvm.Cond.eq (Jvm.Term.elem (Jvm.Term.field (Jvm.Term.string "SinLenses$Reader" (90 : Nat)) "java/lang/String" "value" "[B") (Jvm.Term.int (57 : Int32))) (Jvm.Term.int (32 : Int32))) ∈ flT0 := List.mem_of_getElem? (i := 99) rfl
theorem fE_58 : (Jvm.Cond.eq (Jvm.Term.elem (Jvm.Term.field (Jvm.Term.string "SinLenses$Reader" (90 : Nat)) "java/lang/String" "value" "[B") (Jvm.Term.int (58 : Int32))) (Jvm.Term.int (111 : Int32))) ∈ flT0 := List.mem_of_getElem? (i := 100) rfl
theorem fE_59 : (Jvm.Cond.eq (Jvm.Term.elem (Jvm.Term.field (Jvm.Term.string "SinLenses$Reader" (90 : Nat)) "java/lang/String" "value" "[B") (Jvm.Term.int (59 : Int32))) (Jvm.Term.int (102 : Int32))) ∈ flT0 := List.mem_of_getElem? (i := 101) rfl
theorem fE_60 : (Jvm.Cond.eq (Jvm.Term.elem (Jvm.Term.field (Jvm.Term.string "SinLenses$Reader" (90 : Nat)) "java/lang/String" "value" "[B") (Jvm.Term.int (60 : Int32))) (Jvm.Term.int (32 : Int32))) ∈ flT0 := List.mem_of_getElem? (i := 102) rfl
theorem fE_61 : (Jvm.Cond.eq (Jvm.Term.elem (Jvm.Term.field (Jvm.Term.string "SinLenses$Reader" (90 : Nat)) "java/lang/String" "value" "[B") (Jvm.Term.int (61 : Int32))) (Jvm.Term.int (119 : Int32))) ∈ flT0 := List.mem_of_getElem? (i := 103) rfl
theorem fE_62 : (Jvm.Cond.eq (Jvm.Term.elem (Jvm.Term.field (Jvm.Term.string "SinLenses$Reader" (90 : Nat)) "java/lang/String" "value" "[B") (Jvm.Term.int (62 : Int32))) (Jvm.Term.int (105 : Int32))) ∈ flT0 := List.mem_of_getElem? (i := 104) rfl
theorem fE_63 : (Jvm.Cond.eq (Jvm.Term.elem (Jvm.Term.field (Jvm.Term.string "SinLenses$Reader" (90 : Nat)) "java/lang/String" "value" "[B") (Jvm.Term.int (63 : Int32))) (Jvm.Term.int (116 : Int32))) ∈ flT0 := List.mem_of_getElem? (i := 105) rfl
theorem fE_64 : (Jvm.Cond.eq (Jvm.Term.elem (Jvm.Term.field (Jvm.Term.string "SinLenses$Reader" (90 : Nat)) "java/lang/String" "value" "[B") (Jvm.Term.int (64 : Int32))) (Jvm.Term.int (104 : Int32))) ∈ flT0 := List.mem_of_getElem? (i := 106) rfl
theorem fE_65 : (Jvm.Cond.eq (Jvm.Term.elem (Jvm.Term.field (Jvm.Term.string "SinLenses$Reader" (90 : Nat)) "java/lang/String" "value" "[B") (Jvm.Term.int (65 : Int32))) (Jvm.Term.int (32 : Int32))) ∈ flT0 := List.mem_of_getElem? (i := 107) rfl
theorem fE_66 : (Jvm.Cond.eq (Jvm.Term.elem (Jvm.Term.field (Jvm.Term.string "SinLenses$Reader" (90 : Nat)) "java/lang/String" "value" "[B") (Jvm.Term.int (66 : Int32))) (Jvm.Term.int (111 : Int32))) ∈ flT0 := List.mem_of_getElem? (i := 108) rfl
theorem fE_67 : (Jvm.Cond.eq (Jvm.Term.elem (Jvm.Term.field (Jvm.Term.string "SinLenses$Reader" (90 : Nat)) "java/lang/String" "value" "[B") (Jvm.Term.int (67 : Int32))) (Jvm.Term.int (114 : Int32))) ∈ flT0 := List.mem_of_getElem? (i := 109) rfl
theorem fE_68 : (Jvm.Cond.eq (Jvm.Term.elem (Jvm.Term.field (Jvm.Term.string "SinLenses$Reader" (90 : Nat)) "java/lang/String" "value" "[B") (Jvm.Term.int (68 : Int32))) (Jvm.Term.int (32 : Int32))) ∈ flT0 := List.mem_of_getElem? (i := 110) rfl
theorem fE_69 : (Jvm.Cond.eq (Jvm.Term.elem (Jvm.Term.field (Jvm.Term.string "SinLenses$Reader" (90 : Nat)) "java/lang/String" "value" "[B") (Jvm.Term.int (69 : Int32))) (Jvm.Term.int (97 : Int32))) ∈ flT0 := List.mem_of_getElem? (i := 111) rfl
theorem fE_70 : (Jvm.Cond.eq (Jvm.Term.elem (Jvm.Term.field (Jvm.Term.string "SinLenses$Reader" (90 : Nat)) "java/lang/String" "value" "[B") (Jvm.Term.int (70 : Int32))) (Jvm.Term.int (110 : Int32))) ∈ flT0 := List.mem_of_getElem? (i := 112) rfl
theorem fE_71 : (Jvm.Cond.eq (Jvm.Term.elem (Jvm.Term.field (Jvm.Term.string "SinLenses$Reader" (90 : Nat)) "java/lang/String" "value" "[B") (Jvm.Term.int (71 : Int32))) (Jvm.Term.int (100 : Int32))) ∈ flT0 := List.mem_of_getElem? (i := 113) rfl
theorem fE_72 : (Jvm.Cond.eq (Jvm.Term.elem (Jvm.Term.field (Jvm.Term.string "SinLenses$Reader" (90 : Nat)) "java/lang/String" "value" "[B") (Jvm.Term.int (72 : Int32))) (Jvm.Term.int (32 : Int32))) ∈ flT0 := List.mem_of_getElem? (i := 114) rfl
theorem fE_73 : (Jvm.Cond.eq (Jvm.Term.elem (Jvm.Term.field (Jvm.Term.string "SinLenses$Reader" (90 : Nat)) "java/lang/String" "value" "[B") (Jvm.Term.int (73 : Int32))) (Jvm.Term.int (110 : Int32))) ∈ flT0 := List.mem_of_getElem? (i := 115) rfl
theorem fE_74 : (Jvm.Cond.eq (Jvm.Term.elem (Jvm.Term.field (Jvm.Term.string "SinLenses$Reader" (90 : Nat)) "java/lang/String" "value" "[B") (Jvm.Term.int (74 : Int32))) (Jvm.Term.int (111 : Int32))) ∈ flT0 := List.mem_of_getElem? (i := 116) rfl
theorem fE_75 : (Jvm.Cond.eq (Jvm.Term.elem (Jvm.Term.field (Jvm.Term.string "SinLenses$Reader" (90 : Nat)) "java/lang/String" "value" "[B") (Jvm.Term.int (75 : Int32))) (Jvm.Term.int (116 : Int32))) ∈ flT0 := List.mem_of_getElem? (i := 117) rfl
theorem fE_76 : (Jvm.Cond.eq (Jvm.Term.elem (Jvm.Term.field (Jvm.Term.string "SinLenses$Reader" (90 : Nat)) "java/lang/String" "value" "[B") (Jvm.Term.int (76 : Int32))) (Jvm.Term.int (32 : Int32))) ∈ flT0 := List.mem_of_getElem? (i := 118) rfl
theorem fE_77 : (Jvm.Cond.eq (Jvm.Term.elem (Jvm.Term.field (Jvm.Term.string "SinLenses$Reader" (90 : Nat)) "java/lang/String" "value" "[B") (Jvm.Term.int (77 : Int32))) (Jvm.Term.int (112 : Int32))) ∈ flT0 := List.mem_of_getElem? (i := 119) rfl
theorem fE_78 : (Jvm.Cond.eq (Jvm.Term.elem (Jvm.Term.field (Jvm.Term.string "SinLenses$Reader" (90 : Nat)) "java/lang/String" "value" "[B") (Jvm.Term.int (78 : Int32))) (Jvm.Term.int (101 : Int32))) ∈ flT0 := List.mem_of_getElem? (i := 120) rfl
theorem fE_79 : (Jvm.Cond.eq (Jvm.Term.elem (Jvm.Term.field (Jvm.Term.string "SinLenses$Reader" (90 : Nat)) "java/lang/String" "value" "[B") (Jvm.Term.int (79 : Int32))) (Jvm.Term.int (114 : Int32))) ∈ flT0 := List.mem_of_getElem? (i := 121) rfl
theorem fE_80 : (Jvm.Cond.eq (Jvm.Term.elem (Jvm.Term.field (Jvm.Term.string "SinLenses$Reader" (90 : Nat)) "java/lang/String" "value" "[B") (Jvm.Term.int (80 : Int32))) (Jvm.Term.int (115 : Int32))) ∈ flT0 := List.mem_of_getElem? (i := 122) rfl
theorem fE_81 : (Jvm.Cond.eq (Jvm.Term.elem (Jvm.Term.field (Jvm.Term.string "SinLenses$Reader" (90 : Nat)) "java/lang/String" "value" "[B") (Jvm.Term.int (81 : Int32))) (Jvm.Term.int (111 : Int32))) ∈ flT0 := List.mem_of_getElem? (i := 123) rfl
theorem fE_82 : (Jvm.Cond.eq (Jvm.Term.elem (Jvm.Term.field (Jvm.Term.string "SinLenses$Reader" (90 : Nat)) "java/lang/String" "value" "[B") (Jvm.Term.int (82 : Int32))) (Jvm.Term.int (110 : Int32))) ∈ flT0 := List.mem_of_getElem? (i := 124) rfl
theorem fE_83 : (Jvm.Cond.eq (Jvm.Term.elem (Jvm.Term.field (Jvm.Term.string "SinLenses$Reader" (90 : Nat)) "java/lang/String" "value" "[B") (Jvm.Term.int (83 : Int32))) (Jvm.Term.int (32 : Int32))) ∈ flT0 := List.mem_of_getElem? (i := 125) rfl
theorem fE_84 : (Jvm.Cond.eq (Jvm.Term.elem (Jvm.Term.field (Jvm.Term.string "SinLenses$Reader" (90 : Nat)) "java/lang/String" "value" "[B") (Jvm.Term.int (84 : Int32))) (Jvm.Term.int (107 : Int32))) ∈ flT0 := List.mem_of_getElem? (i := 126) rfl
theorem fE_85 : (Jvm.Cond.eq (Jvm.Term.elem (Jvm.Term.field (Jvm.Term.string "SinLenses$Reader" (90 : Nat)) "java/lang/String" "value" "[B") (Jvm.Term.int (85 : Int32))) (Jvm.Term.int (105 : Int32))) ∈ flT0 := List.mem_of_getElem? (i := 127) rfl
theorem fE_86 : (Jvm.Cond.eq (Jvm.Term.elem (Jvm.Term.field (Jvm.Term.string "SinLenses$Reader" (90 : Nat)) "java/lang/String" "value" "[B") (Jvm.Term.int (86 : Int32))) (Jvm.Term.int (110 : Int32))) ∈ flT0 := List.mem_of_getElem? (i := 128) rfl
theorem fE_87 : (Jvm.Cond.eq (Jvm.Term.elem (Jvm.Term.field (Jvm.Term.string "SinLenses$Reader" (90 : Nat)) "java/lang/String" "value" "[B") (Jvm.Term.int (87 : Int32))) (Jvm.Term.int (100 : Int32))) ∈ flT0 := List.mem_of_getElem? (i := 129) rfl
theorem fE_88 : (Jvm.Cond.eq (Jvm.Term.elem (Jvm.Term.field (Jvm.Term.string "SinLenses$Reader" (90 : Nat)) "java/lang/String" "value" "[B") (Jvm.Term.int (88 : Int32))) (Jvm.Term.int (32 : Int32))) ∈ flT0 := List.mem_of_getElem? (i := 130) rfl
theorem fE_89 : (Jvm.Cond.eq (Jvm.Term.elem (Jvm.Term.field (Jvm.Term.string "SinLenses$Reader" (90 : Nat)) "java/lang/String" "value" "[B") (Jvm.Term.int (89 : Int32))) (Jvm.Term.int (115 : Int32))) ∈ flT0 := List.mem_of_getElem? (i := 131) rfl
theorem fE_90 : (Jvm.Cond.eq (Jvm.Term.elem (Jvm.Term.field (Jvm.Term.string "SinLenses$Reader" (90 : Nat)) "java/lang/String" "value" "[B") (Jvm.Term.int (90 : Int32))) (Jvm.Term.int (105 : Int32))) ∈ flT0 := List.mem_of_getElem? (i := 132) rfl
theorem fE_91 : (Jvm.Cond.eq (Jvm.Term.elem (Jvm.Term.field (Jvm.Term.string "SinLenses$Reader" (90 : Nat)) "java/lang/String" "value" "[B") (Jvm.Term.int (91 : Int32))) (Jvm.Term.int (110 : Int32))) ∈ flT0 := List.mem_of_getElem? (i := 133) rfl
theorem fE_92 : (Jvm.Cond.eq (Jvm.Term.elem (Jvm.Term.field (Jvm.Term.string "SinLenses$Reader" (90 : Nat)) "java/lang/String" "value" "[B") (Jvm.Term.int (92 : Int32))) (Jvm.Term.int (115 : Int32))) ∈ flT0 := List.mem_of_getElem? (i := 134) rfl
theorem fE_93 : (Jvm.Cond.eq (Jvm.Term.elem (Jvm.Term.field (Jvm.Term.string "SinLenses$Reader" (90 : Nat)) "java/lang/String" "value" "[B") (Jvm.Term.int (93 : Int32))) (Jvm.Term.int (32 : Int32))) ∈ flT0 := List.mem_of_getElem? (i := 135) rfl
theorem fE_94 : (Jvm.Cond.eq (Jvm.Term.elem (Jvm.Term.field (Jvm.Term.string "SinLenses$Reader" (90 : Nat)) "java/lang/String" "value" "[B") (Jvm.Term.int (94 : Int32))) (Jvm.Term.int (115 : Int32))) ∈ flT0 := List.mem_of_getElem? (i := 136) rfl
theorem fE_95 : (Jvm.Cond.eq (Jvm.Term.elem (Jvm.Term.field (Jvm.Term.string "SinLenses$Reader" (90 : Nat)) "java/lang/String" "value" "[B") (Jvm.Term.int (95 : Int32))) (Jvm.Term.int (105 : Int32))) ∈ flT0 := List.mem_of_getElem? (i := 137) rfl
theorem fE_96 : (Jvm.Cond.eq (Jvm.Term.elem (Jvm.Term.field (Jvm.Term.string "SinLenses$Reader" (90 : Nat)) "java/lang/String" "value" "[B") (Jvm.Term.int (96 : Int32))) (Jvm.Term.int (103 : Int32))) ∈ flT0 := List.mem_of_getElem? (i := 138) rfl
theorem fE_97 : (Jvm.Cond.eq (Jvm.Term.elem (Jvm.Term.field (Jvm.Term.string "SinLenses$Reader" (90 : Nat)) "java/lang/String" "value" "[B") (Jvm.Term.int (97 : Int32))) (Jvm.Term.int (104 : Int32))) ∈ flT0 := List.mem_of_getElem? (i := 139) rfl
theorem fE_98 : (Jvm.Cond.eq (Jvm.Term.elem (Jvm.Term.field (Jvm.Term.string "SinLenses$Reader" (90 : Nat)) "java/lang/String" "value" "[B") (Jvm.Term.int (98 : Int32))) (Jvm.Term.int (116 : Int32))) ∈ flT0 := List.mem_of_getElem? (i := 140) rfl
theorem fE_99 : (Jvm.Cond.eq (Jvm.Term.elem (Jvm.Term.field (Jvm.Term.string "SinLenses$Reader" (90 : Nat)) "java/lang/String" "value" "[B") (Jvm.Term.int (99 : Int32))) (Jvm.Term.int (32 : Int32))) ∈ flT0 := List.mem_of_getElem? (i := 141) rfl
theorem fE_100 : (Jvm.Cond.eq (Jvm.Term.elem (Jvm.Term.field (Jvm.Term.string "SinLenses$Reader" (90 : Nat)) "java/lang/String" "value" "[B") (Jvm.Term.int (100 : Int32))) (Jvm.Term.int (108 : Int32))) ∈ flT0 := List.mem_of_getElem? (i := 142) rfl
theorem fE_101 : (Jvm.Cond.eq (Jvm.Term.elem (Jvm.Term.field (Jvm.Term.string "SinLenses$Reader" (90 : Nat)) "java/lang/String" "value" "[B") (Jvm.Term.int (101 : Int32))) (Jvm.Term.int (105 : Int32))) ∈ flT0 := List.mem_of_getElem? (i := 143) rfl
theorem fE_102 : (Jvm.Cond.eq (Jvm.Term.elem (Jvm.Term.field (Jvm.Term.string "SinLenses$Reader" (90 : Nat)) "java/lang/String" "value" "[B") (Jvm.Term.int (102 : Int32))) (Jvm.Term.int (116 : Int32))) ∈ flT0 := List.mem_of_getElem? (i := 144) rfl
theorem fE_103 : (Jvm.Cond.eq (Jvm.Term.elem (Jvm.Term.field (Jvm.Term.string "SinLenses$Reader" (90 : Nat)) "java/lang/String" "value" "[B") (Jvm.Term.int (103 : Int32))) (Jvm.Term.int (32 : Int32))) ∈ flT0 := List.mem_of_getElem? (i := 145) rfl
theorem fE_104 : (Jvm.Cond.eq (Jvm.Term.elem (Jvm.Term.field (Jvm.Term.string "SinLenses$Reader" (90 : Nat)) "java/lang/String" "value" "[B") (Jvm.Term.int (104 : Int32))) (Jvm.Term.int (102 : Int32))) ∈ flT0 := List.mem_of_getElem? (i := 146) rfl
theorem fE_105 : (Jvm.Cond.eq (Jvm.Term.elem (Jvm.Term.field (Jvm.Term.string "SinLenses$Reader" (90 : Nat)) "java/lang/String" "value" "[B") (Jvm.Term.int (105 : Int32))) (Jvm.Term.int (105 : Int32))) ∈ flT0 := List.mem_of_getElem? (i := 147) rfl
theorem fE_106 : (Jvm.Cond.eq (Jvm.Term.elem (Jvm.Term.field (Jvm.Term.string "SinLenses$Reader" (90 : Nat)) "java/lang/String" "value" "[B") (Jvm.Term.int (106 : Int32))) (Jvm.Term.int (114 : Int32))) ∈ flT0 := List.mem_of_getElem? (i := 148) rfl
theorem fE_107 : (Jvm.Cond.eq (Jvm.Term.elem (Jvm.Term.field (Jvm.Term.string "SinLenses$Reader" (90 : Nat)) "java/lang/String" "value" "[B") (Jvm.Term.int (107 : Int32))) (Jvm.Term.int (115 : Int32))) ∈ flT0 := List.mem_of_getElem? (i := 149) rfl
theorem fE_108 : (Jvm.Cond.eq (Jvm.Term.elem (Jvm.Term.field (Jvm.Term.string "SinLenses$Reader" (90 : Nat)) "java/lang/String" "value" "[B") (Jvm.Term.int (108 : Int32))) (Jvm.Term.int (116 : Int32))) ∈ flT0 := List.mem_of_getElem? (i := 150) rfl
theorem fE_109 : (Jvm.Cond.eq (Jvm.Term.elem (Jvm.Term.field (Jvm.Term.string "SinLenses$Reader" (90 : Nat)) "java/lang/String" "value" "[B") (Jvm.Term.int (109 : Int32))) (Jvm.Term.int (32 : Int32))) ∈ flT0 := List.mem_of_getElem? (i := 151) rfl
theorem fE_110 : (Jvm.Cond.eq (Jvm.Term.elem (Jvm.Term.field (Jvm.Term.string "SinLenses$Reader" (90 : Nat)) "java/lang/String" "value" "[B") (Jvm.Term.int (110 : Int32))) (Jvm.Term.int (100 : Int32))) ∈ flT0 := List.mem_of_getElem? (i := 152) rfl
theorem fE_111 : (Jvm.Cond.eq (Jvm.Term.elem (Jvm.Term.field (Jvm.Term.string "SinLenses$Reader" (90 : Nat)) "java/lang/String" "value" "[B") (Jvm.Term.int (111 : Int32))) (Jvm.Term.int (97 : Int32))) ∈ flT0 := List.mem_of_getElem? (i := 153) rfl
theorem fE_112 : (Jvm.Cond.eq (Jvm.Term.elem (Jvm.Term.field (Jvm.Term.string "SinLenses$Reader" (90 : Nat)) "java/lang/String" "value" "[B") (Jvm.Term.int (112 : Int32))) (Jvm.Term.int (121 : Int32))) ∈ flT0 := List.mem_of_getElem? (i := 154) rfl
theorem fE_113 : (Jvm.Cond.eq (Jvm.Term.elem (Jvm.Term.field (Jvm.Term.string "SinLenses$Reader" (90 : Nat)) "java/lang/String" "value" "[B") (Jvm.Term.int (113 : Int32))) (Jvm.Term.int (32 : Int32))) ∈ flT0 := List.mem_of_getElem? (i := 155) rfl
theorem fE_114 : (Jvm.Cond.eq (Jvm.Term.elem (Jvm.Term.field (Jvm.Term.string "SinLenses$Reader" (90 : Nat)) "java/lang/String" "value" "[B") (Jvm.Term.int (114 : Int32))) (Jvm.Term.int (109 : Int32))) ∈ flT0 := List.mem_of_getElem? (i := 156) rfl
theorem fE_115 : (Jvm.Cond.eq (Jvm.Term.elem (Jvm.Term.field (Jvm.Term.string "SinLenses$Reader" (90 : Nat)) "java/lang/String" "value" "[B") (Jvm.Term.int (115 : Int32))) (Jvm.Term.int (111 : Int32))) ∈ flT0 := List.mem_of_getElem? (i := 157) rfl
theorem fE_116 : (Jvm.Cond.eq (Jvm.Term.elem (Jvm.Term.field (Jvm.Term.string "SinLenses$Reader" (90 : Nat)) "java/lang/String" "value" "[B") (Jvm.Term.int (116 : Int32))) (Jvm.Term.int (111 : Int32))) ∈ flT0 := List.mem_of_getElem? (i := 158) rfl
theorem fE_117 : (Jvm.Cond.eq (Jvm.Term.elem (Jvm.Term.field (Jvm.Term.string "SinLenses$Reader" (90 : Nat)) "java/lang/String" "value" "[B") (Jvm.Term.int (117 : Int32))) (Jvm.Term.int (100 : Int32))) ∈ flT0 := List.mem_of_getElem? (i := 159) rfl
theorem fE_118 : (Jvm.Cond.eq (Jvm.Term.elem (Jvm.Term.field (Jvm.Term.string "SinLenses$Reader" (90 : Nat)) "java/lang/String" "value" "[B") (Jvm.Term.int (118 : Int32))) (Jvm.Term.int (32 : Int32))) ∈ flT0 := List.mem_of_getElem? (i := 160) rfl
theorem fE_119 : (Jvm.Cond.eq (Jvm.Term.elem (Jvm.Term.field (Jvm.Term.string "SinLenses$Reader" (90 : Nat)) "java/lang/String" "value" "[B") (Jvm.Term.int (119 : Int32))) (Jvm.Term.int (100 : Int32))) ∈ flT0 := List.mem_of_getElem? (i := 161) rfl
theorem fE_120 : (Jvm.Cond.eq (Jvm.Term.elem (Jvm.Term.field (Jvm.Term.string "SinLenses$Reader" (90 : Nat)) "java/lang/String" "value" "[B") (Jvm.Term.int (120 : Int32))) (Jvm.Term.int (111 : Int32))) ∈ flT0 := List.mem_of_getElem? (i := 162) rfl
theorem fE_121 : (Jvm.Cond.eq (Jvm.Term.elem (Jvm.Term.field (Jvm.Term.string "SinLenses$Reader" (90 : Nat)) "java/lang/String" "value" "[B") (Jvm.Term.int (121 : Int32))) (Jvm.Term.int (110 : Int32))) ∈ flT0 := List.mem_of_getElem? (i := 163) rfl
theorem fE_122 : (Jvm.Cond.eq (Jvm.Term.elem (Jvm.Term.field (Jvm.Term.string "SinLenses$Reader" (90 : Nat)) "java/lang/String" "value" "[B") (Jvm.Term.int (122 : Int32))) (Jvm.Term.int (101 : Int32))) ∈ flT0 := List.mem_of_getElem? (i := 164) rfl
theorem fE_123 : (Jvm.Cond.eq (Jvm.Term.elem (Jvm.Term.field (Jvm.Term.string "SinLenses$Reader" (90 : Nat)) "java/lang/String" "value" "[B") (Jvm.Term.int (123 : Int32))) (Jvm.Term.int (32 : Int32))) ∈ flT0 := List.mem_of_getElem? (i := 165) rfl
theorem fE_124 : (Jvm.Cond.eq (Jvm.Term.elem (Jvm.Term.field (Jvm.Term.string "SinLenses$Reader" (90 : Nat)) "java/lang/String" "value" "[B") (Jvm.Term.int (124 : Int32))) (Jvm.Term.int (108 : Int32))) ∈ flT0 := List.mem_of_getElem? (i := 166) rfl
theorem fE_125 : (Jvm.Cond.eq (Jvm.Term.elem (Jvm.Term.field (Jvm.Term.string "SinLenses$Reader" (90 : Nat)) "java/lang/String" "value" "[B") (Jvm.Term.int (125 : Int32))) (Jvm.Term.int (97 : Int32))) ∈ flT0 := List.mem_of_getElem? (i := 167) rfl
theorem fE_126 : (Jvm.Cond.eq (Jvm.Term.elem (Jvm.Term.field (Jvm.Term.string "SinLenses$Reader" (90 : Nat)) "java/lang/String" "value" "[B") (Jvm.Term.int (126 : Int32))) (Jvm.Term.int (116 : Int32))) ∈ flT0 := List.mem_of_getElem? (i := 168) rfl
theorem fE_127 : (Jvm.Cond.eq (Jvm.Term.elem (Jvm.Term.field (Jvm.Term.string "SinLenses$Reader" (90 : Nat)) "java/lang/String" "value" "[B") (Jvm.Term.int (127 : Int32))) (Jvm.Term.int (101 : Int32))) ∈ flT0 := List.mem_of_getElem? (i := 169) rfl
theorem fE_128 : (Jvm.Cond.eq (Jvm.Term.elem (Jvm.Term.field (Jvm.Term.string "SinLenses$Reader" (90 : Nat)) "java/lang/String" "value" "[B") (Jvm.Term.int (128 : Int32))) (Jvm.Term.int (115 : Int32))) ∈ flT0 := List.mem_of_getElem? (i := 170) rfl
theorem fE_129 : (Jvm.Cond.eq (Jvm.Term.elem (Jvm.Term.field (Jvm.Term.string "SinLenses$Reader" (90 : Nat)) "java/lang/String" "value" "[B") (Jvm.Term.int (129 : Int32))) (Jvm.Term.int (116 : Int32))) ∈ flT0 := List.mem_of_getElem? (i := 171) rfl
theorem fE_130 : (Jvm.Cond.eq (Jvm.Term.elem (Jvm.Term.field (Jvm.Term.string "SinLenses$Reader" (90 : Nat)) "java/lang/String" "value" "[B") (Jvm.Term.int (130 : Int32))) (Jvm.Term.int (32 : Int32))) ∈ flT0 := List.mem_of_getElem? (i := 172) rfl
theorem fE_131 : (Jvm.Cond.eq (Jvm.Term.elem (Jvm.Term.field (Jvm.Term.string "SinLenses$Reader" (90 : Nat)) "java/lang/String" "value" "[B") (Jvm.Term.int (131 : Int32))) (Jvm.Term.int (115 : Int32))) ∈ flT0 := List.mem_of_getElem? (i := 173) rfl
theorem fE_132 : (Jvm.Cond.eq (Jvm.Term.elem (Jvm.Term.field (Jvm.Term.string "SinLenses$Reader" (90 : Nat)) "java/lang/String" "value" "[B") (Jvm.Term.int (132 : Int32))) (Jvm.Term.int (99 : Int32))) ∈ flT0 := List.mem_of_getElem? (i := 174) rfl
theorem fE_133 : (Jvm.Cond.eq (Jvm.Term.elem (Jvm.Term.field (Jvm.Term.string "SinLenses$Reader" (90 : Nat)) "java/lang/String" "value" "[B") (Jvm.Term.int (133 : Int32))) (Jvm.Term.int (101 : Int32))) ∈ flT0 := List.mem_of_getElem? (i := 175) rfl
theorem fE_134 : (Jvm.Cond.eq (Jvm.Term.elem (Jvm.Term.field (Jvm.Term.string "SinLenses$Reader" (90 : Nat)) "java/lang/String" "value" "[B") (Jvm.Term.int (134 : Int32))) (Jvm.Term.int (110 : Int32))) ∈ flT0 := List.mem_of_getElem? (i := 176) rfl
theorem fE_135 : (Jvm.Cond.eq (Jvm.Term.elem (Jvm.Term.field (Jvm.Term.string "SinLenses$Reader" (90 : Nat)) "java/lang/String" "value" "[B") (Jvm.Term.int (135 : Int32))) (Jvm.Term.int (101 : Int32))) ∈ flT0 := List.mem_of_getElem? (i := 177) rfl
theorem fE_136 : (Jvm.Cond.eq (Jvm.Term.elem (Jvm.Term.field (Jvm.Term.string "SinLenses$Reader" (90 : Nat)) "java/lang/String" "value" "[B") (Jvm.Term.int (136 : Int32))) (Jvm.Term.int (32 : Int32))) ∈ flT0 := List.mem_of_getElem? (i := 178) rfl
theorem fE : ∀ j, j < 137 → (Cond.eq (.elem (Term.field (Term.string "SinLenses$Reader" (90 : Nat)) "java/lang/String" "value" "[B") (.int (Int32.ofNat j))) (.int (byS.getD j 0))) ∈ flT0 := fun j hj => match j, hj with
  | 0, _ => fE_0
  | 1, _ => fE_1
  | 2, _ => fE_2
  | 3, _ => fE_3
  | 4, _ => fE_4
  | 5, _ => fE_5
  | 6, _ => fE_6
  | 7, _ => fE_7
  | 8, _ => fE_8
  | 9, _ => fE_9
  | 10, _ => fE_10
  | 11, _ => fE_11
  | 12, _ => fE_12
  | 13, _ => fE_13
  | 14, _ => fE_14
  | 15, _ => fE_15
  | 16, _ => fE_16
  | 17, _ => fE_17
  | 18, _ => fE_18
  | 19, _ => fE_19
  | 20, _ => fE_20
  | 21, _ => fE_21
  | 22, _ => fE_22
  | 23, _ => fE_23
  | 24, _ => fE_24
  | 25, _ => fE_25
  | 26, _ => fE_26
  | 27, _ => fE_27
  | 28, _ => fE_28
  | 29, _ => fE_29
  | 30, _ => fE_30
  | 31, _ => fE_31
  | 32, _ => fE_32
  | 33, _ => fE_33
  | 34, _ => fE_34
  | 35, _ => fE_35
  | 36, _ => fE_36
  | 37, _ => fE_37
  | 38, _ => fE_38
  | 39, _ => fE_39
  | 40, _ => fE_40
  | 41, _ => fE_41
  | 42, _ => fE_42
  | 43, _ => fE_43
  | 44, _ => fE_44
  | 45, _ => fE_45
  | 46, _ => fE_46
  | 47, _ => fE_47
  | 48, _ => fE_48
  | 49, _ => fE_49
  | 50, _ => fE_50
  | 51, _ => fE_51
  | 52, _ => fE_52
  | 53, _ => fE_53
  | 54, _ => fE_54
  | 55, _ => fE_55
  | 56, _ => fE_56
  | 57, _ => fE_57
  | 58, _ => fE_58
  | 59, _ => fE_59
  | 60, _ => fE_60
  | 61, _ => fE_61
  | 62, _ => fE_62
  | 63, _ => fE_63
  | 64, _ => fE_64
  | 65, _ => fE_65
  | 66, _ => fE_66
  | 67, _ => fE_67
  | 68, _ => fE_68
  | 69, _ => fE_69
  | 70, _ => fE_70
  | 71, _ => fE_71
  | 72, _ => fE_72
  | 73, _ => fE_73
  | 74, _ => fE_74
  | 75, _ => fE_75
  | 76, _ => fE_76
  | 77, _ => fE_77
  | 78, _ => fE_78
  | 79, _ => fE_79
  | 80, _ => fE_80
  | 81, _ => fE_81
  | 82, _ => fE_82
  | 83, _ => fE_83
  | 84, _ => fE_84
  | 85, _ => fE_85
  | 86, _ => fE_86
  | 87, _ => fE_87
  | 88, _ => fE_88
  | 89, _ => fE_89
  | 90, _ => fE_90
  | 91, _ => fE_91
  | 92, _ => fE_92
  | 93, _ => fE_93
  | 94, _ => fE_94
  | 95, _ => fE_95
  | 96, _ => fE_96
  | 97, _ => fE_97
  | 98, _ => fE_98
  | 99, _ => fE_99
  | 100, _ => fE_100
  | 101, _ => fE_101
  | 102, _ => fE_102
  | 103, _ => fE_103
  | 104, _ => fE_104
  | 105, _ => fE_105
  | 106, _ => fE_106
  | 107, _ => fE_107
  | 108, _ => fE_108
  | 109, _ => fE_109
  | 110, _ => fE_110
  | 111, _ => fE_111
  | 112, _ => fE_112
  | 113, _ => fE_113
  | 114, _ => fE_114
  | 115, _ => fE_115
  | 116, _ => fE_116
  | 117, _ => fE_117
  | 118, _ => fE_118
  | 119, _ => fE_119
  | 120, _ => fE_120
  | 121, _ => fE_121
  | 122, _ => fE_122
  | 123, _ => fE_123
  | 124, _ => fE_124
  | 125, _ => fE_125
  | 126, _ => fE_126
  | 127, _ => fE_127
  | 128, _ => fE_128
  | 129, _ => fE_129
  | 130, _ => fE_130
  | 131, _ => fE_131
  | 132, _ => fE_132
  | 133, _ => fE_133
  | 134, _ => fE_134
  | 135, _ => fE_135
  | 136, _ => fE_136
  | j + 137, h => absurd h (by omega)
theorem fT3 : ∀ j, j < 4 → (Cond.eq (.elem (Term.static "SinLenses" "MOST_OF_TERMS" "[I") (.int (Int32.ofNat j))) (.int (([999, 10, 9, 255] : List Int32).getD j 0))) ∈ flT0 := fun j hj => match j, hj with
  | 0, _ => fT3_0
  | 1, _ => fT3_1
  | 2, _ => fT3_2
  | 3, _ => fT3_3
  | j + 4, h => absurd h (by omega)
theorem arrOf {U : State} {c comp : ClassId} {k : Class} {ty : FieldType} (h1 : U.vm.classes[c]? = some k) (h2 : k.kind = .array comp ty) : ArrOfT U c ty := fun n z => ⟨fun q h => (by cases h), k, h1, comp, h2⟩
set_option maxHeartbeats 4000000 in
theorem sk_start {s : State} {args : Array Value} (hts : ∀ w ∈ lw_tbl, w.before args s = true) (hgv : (Jvm.Cond.and given_1 narrow_1).before args s = true) : ∃ (D : va_G) (cy : Nat → ClassId), SK s.heap.size D cy s := by
  have hgw : ∀ w ∈ gw, w.before args s = true := fun w h => hts w (List.mem_filter.mp h).1
  have htb : ∀ w ∈ tables_1, w.before args s = true := fun w h => hts w (List.mem_append_right _ h)
  have hfl := flat_of_before _ hgv
  have hA : ∀ a : Nat, a < s.heap.size → ¬ s.heap.size ≤ a := fun a h => Nat.not_le.mpr h
  obtain ⟨c0, i0, hk0⟩ := u_known (n := 8) hgw kX0.in (hgw _ wd_140)
  obtain ⟨c1, i1, hk1⟩ := u_known (n := 2) hgw kX1.in (hgw _ wd_125)
  obtain ⟨c2, i2, hk2⟩ := u_known (n := 2) hgw kX2.in (hgw _ wd_101)
  obtain ⟨c3, i3, hk3⟩ := u_known (n := 12) hgw kX4.in (hgw _ wd_182)
  obtain ⟨c4, i4, hk4⟩ := u_known (n := 11) hgw kX5.in (hgw _ wd_29)
  obtain ⟨c5, i5, hk5⟩ := u_known (n := 11) hgw kX6.in (hgw _ wd_229)
  obtain ⟨c6, i6, hk6⟩ := u_known (n := 1) hgw kX7.in (hgw _ wd_107)
  obtain ⟨c7, i7, hk7⟩ := u_known (n := 7) hgw kX8.in (hgw _ wd_235)
  obtain ⟨c8, i8, hk8⟩ := u_known (n := 3) hgw kX9.in (hgw _ wd_84)
  obtain ⟨c9, i9, hk9⟩ := u_known (n := 13) hgw kX10.in (hgw _ wd_21)
  obtain ⟨c10, i10, hk10⟩ := u_known (n := 60) hgw kX11.in (hgw _ wd_1126)
  obtain ⟨cI, kI, mI, a1, a2, a3⟩ := Cond.arrayClass_spec (hgw _ wa_I)
  obtain ⟨cJ, kJ, mJ, b1, b2, b3⟩ := Cond.arrayClass_spec (hgw _ wa_J)
  obtain ⟨cZ, kZ, mZ, d1, d2, d3⟩ := Cond.arrayClass_spec (hgw _ wa_Z)
  obtain ⟨mP, cP, kP, e1, e2, e3, e4, e5⟩ := Cond.arrayOver_spec (htb _ wn_82)
  obtain ⟨mT, cT, kT, f1, f2, f3, f4, f5⟩ := Cond.arrayOver_spec (htb _ wn_35)
  obtain ⟨mG, cG, kG, g1, g4, g2, g3⟩ := mn_over (htb _ wn_190)
  obtain ⟨ta, t1, t2⟩ := va_Tof (N := 4) (f := mot) (A := fun q => s.heap.size ≤ q) (by decide) (hfl _ fT1) (va_eqt (hfl _ fT2)) (fun j hj => va_eqt (hfl _ (fT3 j hj))) hA
  obtain ⟨adK, adV, hS, hE⟩ := vk_Sof (N := 1) (tm := fun _ => (Term.string "SinLenses$Reader" (90 : Nat))) (len := [137]) (byt := [byS]) (A := fun q => s.heap.size ≤ q) (args := args) (s := s) (fun i hi => by rw [show i = 0 by omega]; decide) (fun i hi => hfl _ fS1) (fun i hi => hfl _ fS2) (fun i hi => hfl _ fS3) (fun i hi => by rw [show i = 0 by omega]; exact hfl _ fS4) (fun i hi j hj => by
    have e0 : i = 0 := by omega
    subst e0
    exact hfl _ (fE j hj)) (fun i j hi hj hij => absurd (by omega : i = j) hij) hA
  refine ⟨(fun k => if k = 0 then c0 else if k = 1 then c1 else if k = 2 then c2 else if k = 3 then c3 else if k = 4 then c4 else if k = 5 then c5 else if k = 6 then c6 else if k = 7 then c7 else if k = 8 then c8 else if k = 9 then c9 else c10, fun k => if k = 0 then i0 else if k = 1 then i1 else if k = 2 then i2 else if k = 3 then i3 else if k = 4 then i4 else if k = 5 then i5 else if k = 6 then i6 else if k = 7 then i7 else if k = 8 then i8 else if k = 9 then i9 else i10), fun k => if k = 11 then cI else if k = 12 then cJ else if k = 13 then cZ else if k = 14 then cP else if k = 15 then cT else if k = 16 then cG else if k = 100 then ta else if k = 101 then adK 0 else adV 0, ⟨?_, ?_⟩, ?_, ?_, ?_, ?_, ?_⟩
  · intro k q hq
    match k, hq with
    | 0, hq => cases hq; exact hk0
    | 1, hq => cases hq; exact hk1
    | 2, hq => cases hq; exact hk2
    | 3, hq => cases hq; exact hk3
    | 4, hq => cases hq; exact hk4
    | 5, hq => cases hq; exact hk5
    | 6, hq => cases hq; exact hk6
    | 7, hq => cases hq; exact hk7
    | 8, hq => cases hq; exact hk8
    | 9, hq => cases hq; exact hk9
    | 10, hq => cases hq; exact hk10
    | k + 11, hq => simp [vwCl] at hq
  · intro k q hq
    match k, hq with
    | 0, hq => cases hq; exact ⟨arrOf a2 a3, a1⟩
    | 1, hq => cases hq; exact ⟨arrOf b2 b3, b1⟩
    | 2, hq => cases hq; exact ⟨arrOf d2 d3, d1⟩
    | 3, hq => cases hq; exact ⟨arrOf e3 e4, ⟨kP, mP, e3, e4, e1, e5⟩⟩
    | 4, hq => cases hq; exact ⟨arrOf f3 f4, ⟨kT, mT, f3, f4, f1, f5⟩⟩
    | 5, hq => cases hq; exact ⟨arrOf g2 g3, g4⟩
    | k + 6, hq => simp [tyl] at hq
  · intro w hw hn
    refine va_Nw.of ?_ (htb w hw)
    cases w <;> first | rfl | (simp [isN] at hn)
  · exact va_AO.of (htb _ wn_82)
  · exact va_AO.of (htb _ wn_35)
  · refine ⟨va_Zof (htb _ wn_539) (hgw _ wd_1) t1 hA, t2, va_Zof (htb _ wn_624) (hgw _ wd_14) (va_eqi (hfl _ fC1)) hA, ?_, vk_R.of (htb _ wn_614) (hE 0 (by decide)), va_Zqof (htb _ wn_640) (hgw _ wd_16) (hfl _ fF1) hA⟩
    refine ⟨fun i hi => ?_, fun i j hi hj _ => by omega⟩
    have e0 : i = 0 := by omega
    subst e0
    exact hS.1 0 (by decide)
  · exact htb _ wn_190
set_option maxHeartbeats 4000000 in
set_option maxRecDepth 100000 in
theorem start_of {p : Program} {e : Env} {s : State} {m : MethodId} {below : List Frame} {meth : Method} {c : Code} (l : Launch) {b L : Nat} {xs : Nat → Int32} (hL : L ≤ 3072) (C0 : lw_At p s m meth c b L xs) (hpure : lawStart xs (L / 6)) : W p l e room_1 s m #[Value.ref b] below meth c s.heap [] 0 0 (lw_Z below #[Value.ref b] s) (entryFrame m ([Value.ref b] : List Value).toArray 4) := by
  obtain ⟨hx, hb, hr, hml, hown, hts, hX, hbl, hlocks, hgv⟩ := C0
  obtain ⟨D, cy, sk⟩ := sk_start hts hgv
  have C : CX p s m #[.ref b] meth c s.heap.size D cy cL_law RL 4 ret := ⟨hx, hb, hown, fun w h => hts w (List.mem_filter.mp h).1, hml, hr, hlocks, sk, Nat.le_refl _⟩
  have hl := lv_entry ([.ref b]) (n := 4) (Nat.le_of_ble_eq_true rfl)
  rw [lg_entry_eq]
  have w0 : Wd s.heap.size D cy G00 S00 s.heap := ⟨fun k q h => by simp [pl, G00] at h, pl_D, rfl, fun i hi => absurd hi (Nat.not_lt_zero i)⟩
  suffices K : J p l e room_1 s m #[.ref b] below meth c s.heap.size D cy 4 (lw_Z below #[.ref b] s) 0 0 G00 S00 0 [(0, .ref b)] [] from K s.heap [] _ w0 va_S.rf hl
  have h := hpure
  unfold lawStart at h
  refine jNew C 3 (by decide +kernel : decode cL_law 0 = .ok (.new 7, 3)) rfl (by show s.heap.size + 0 ≤ s.heap.size + 0; exact Nat.le_refl _) kX10 (by decide) dfX10 wd_20 wd_21 wd_1 (Nat.le_of_ble_eq_true rfl) (Nat.le_of_ble_eq_true rfl) (fun x G1 S1 ex eG1 eS1 => ?_)
  have ex : x = 0 := ex
  subst ex
  subst eG1
  subst eS1
  have tx : ok (gN G00 9 0) 9 0 := ok_new
  refine jB C [(.dup, 1, 0)] 4 [(0, .ref b)] [.ref (s.heap.size + 0), .ref (s.heap.size + 0)] (by decide +kernel) rfl rfl ?_
  refine jCallI_V C 7 (rest := [.ref (s.heap.size + 0)]) (ok_X10_init tx h) (by decide +kernel : decode cL_law 4 = .ok (.invokespecial 9, 3)) rfl wd_22 wd_23 rfl wd_1 wd_24 ⟨rfl, rfl⟩ hd_X10_init ⟨Nat.le_of_ble_eq_true rfl, Nat.le_of_ble_eq_true rfl⟩ rfl rfl rfl (Nat.le_of_ble_eq_true rfl) ⟨Nat.le_of_ble_eq_true rfl, Nat.le_of_ble_eq_true rfl⟩ (fun G1 S1 h => ?_)
  obtain ⟨⟨x1, n1⟩, h⟩ := h
  have tx := x1.ok tx
  refine jB C [(.astore_n 1, 1, 0)] 8 [(1, .ref (s.heap.size + 0)), (0, .ref b)] [] (by decide +kernel) rfl rfl ?_
  have n1' : G1.2.2 = 87 := n1
  refine jNew C 11 (by decide +kernel : decode cL_law 8 = .ok (.new 10, 3)) rfl (by rw [n1']; exact Nat.le_refl _) kX11 (by decide) dfX11 wd_1125 wd_1126 wd_12 (Nat.le_of_ble_eq_true rfl) (Nat.le_of_ble_eq_true rfl) (fun mm G2 S2 em eG2 eS2 => ?_)
  subst em
  subst eG2
  subst eS2
  have tm : ok (gN G1 10 0) 10 G1.2.2 := ok_new
  have tx := (ext.new (k := 10) (n := 0)).ok tx
  refine jB C [(.dup, 1, 0)] 12 [(1, .ref (s.heap.size + 0)), (0, .ref b)] [.ref (s.heap.size + G1.2.2), .ref (s.heap.size + G1.2.2)] (by decide +kernel) rfl rfl ?_
  refine jCallI_V C 15 (rest := [.ref (s.heap.size + G1.2.2)]) (ok_X11_init tm h) (by decide +kernel : decode cL_law 12 = .ok (.invokespecial 12, 3)) rfl wd_1127 wd_1128 rfl wd_12 wd_1129 ⟨rfl, rfl⟩ hd_X11_init ⟨Nat.le_of_ble_eq_true rfl, Nat.le_of_ble_eq_true rfl⟩ rfl rfl rfl (Nat.le_of_ble_eq_true rfl) ⟨Nat.le_of_ble_eq_true rfl, Nat.le_of_ble_eq_true rfl⟩ (fun G3 S3 h => ?_)
  obtain ⟨⟨x3, n3⟩, h⟩ := h
  have tm := x3.ok tm
  have tx := x3.ok tx
  refine jB C [(.astore_n 2, 1, 0), (.iconst 0, 1, 0), (.istore_n 3, 1, 0)] 18 [(3, .int 0), (2, .ref (s.heap.size + G1.2.2)), (1, .ref (s.heap.size + 0)), (0, .ref b)] [] (by decide +kernel) rfl rfl ?_
  exact law_loop C hX hbl rfl hL (fun locs h => h) (L / 6) 0 0 _ _ G3 S3 nI_0.symm (by omega) (by omega) (by show 121 + 8 * (L / 6) ≤ 600000; omega) (by show 29843 + 1000 * (L / 6) ≤ 7302250; omega) tx tm h
