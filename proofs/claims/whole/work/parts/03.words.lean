theorem k1_0 : (Cond.initialized "BookChecksLaw") ∈ gW := gW_in (in1 (List.mem_of_getElem? (i := 0) rfl)) (by decide +kernel)
theorem k1_1 : (Cond.initialized "BookChecks") ∈ gW := gW_in (in1 (List.mem_of_getElem? (i := 1) rfl)) (by decide +kernel)
theorem k1_2 : (Cond.initialized "BookChecks$Book") ∈ gW := gW_in (in1 (List.mem_of_getElem? (i := 2) rfl)) (by decide +kernel)
theorem k1_3 : (Cond.initialized "BookChecks$Joins") ∈ gW := gW_in (in1 (List.mem_of_getElem? (i := 3) rfl)) (by decide +kernel)
theorem k1_4 : (Cond.initialized "BookChecks$Plants") ∈ gW := gW_in (in1 (List.mem_of_getElem? (i := 4) rfl)) (by decide +kernel)
theorem k1_5 : (Cond.initialized "BookChecks$Risks") ∈ gW := gW_in (in1 (List.mem_of_getElem? (i := 5) rfl)) (by decide +kernel)
theorem k1_6 : (Cond.initialized "BookChecks$Row") ∈ gW := gW_in (in1 (List.mem_of_getElem? (i := 6) rfl)) (by decide +kernel)
theorem k1_7 : (Cond.initialized "BookChecks$Watch") ∈ gW := gW_in (in1 (List.mem_of_getElem? (i := 7) rfl)) (by decide +kernel)
theorem k1_8 : (Cond.initialized "BookChecks$Acts") ∈ gW := gW_in (in1 (List.mem_of_getElem? (i := 8) rfl)) (by decide +kernel)
theorem k1_9 : (Cond.initialized "BookChecksModel") ∈ gW := gW_in (in1 (List.mem_of_getElem? (i := 9) rfl)) (by decide +kernel)
theorem k1_10 : (Cond.initialized "java/lang/Math") ∈ gW := gW_in (in1 (List.mem_of_getElem? (i := 10) rfl)) (by decide +kernel)
theorem k1_11 : (Cond.initialized "java/lang/Throwable") ∈ gW := gW_in (in1 (List.mem_of_getElem? (i := 11) rfl)) (by decide +kernel)
theorem k1_12 : (Cond.initialized "java/lang/Exception") ∈ gW := gW_in (in1 (List.mem_of_getElem? (i := 12) rfl)) (by decide +kernel)
theorem k1_13 : (Cond.initialized "java/lang/RuntimeException") ∈ gW := gW_in (in1 (List.mem_of_getElem? (i := 13) rfl)) (by decide +kernel)
theorem k1_14 : (Cond.initialized "java/lang/IndexOutOfBoundsException") ∈ gW := gW_in (in1 (List.mem_of_getElem? (i := 14) rfl)) (by decide +kernel)
theorem k1_15 : (Cond.initialized "java/lang/Integer") ∈ gW := gW_in (in1 (List.mem_of_getElem? (i := 15) rfl)) (by decide +kernel)
theorem k1_16 : (Cond.classLink "BookChecksLaw" (8 : Nat) "BookChecks") ∈ gW := gW_in (in1 (List.mem_of_getElem? (i := 16) rfl)) (by decide +kernel)
theorem k1_17 : (Cond.instantiable "BookChecks" (10 : Nat)) ∈ gW := gW_in (in1 (List.mem_of_getElem? (i := 17) rfl)) (by decide +kernel)
theorem k1_18 : (Cond.methodLink "BookChecksLaw" (21 : Nat) ({ cls := "BookChecks", name := "<init>", desc := "(J)V" } : MethodName)) ∈ gW := gW_in (in1 (List.mem_of_getElem? (i := 18) rfl)) (by decide +kernel)
theorem k1_19 : (Cond.instanceMethod ({ cls := "BookChecks", name := "<init>", desc := "(J)V" } : MethodName)) ∈ gW := gW_in (in1 (List.mem_of_getElem? (i := 19) rfl)) (by decide +kernel)
theorem k1_20 : (Cond.code ({ cls := "BookChecks", name := "<init>", desc := "(J)V" } : MethodName) prog_1_method_1_code (3 : Nat) (Option.none : Option ClassFile.FieldType)) ∈ gW := gW_in (in1 (List.mem_of_getElem? (i := 20) rfl)) (by decide +kernel)
theorem k1_21 : (Cond.methodLink "BookChecks" (1 : Nat) ({ cls := "java/lang/Object", name := "<init>", desc := "()V" } : MethodName)) ∈ gW := gW_in (in1 (List.mem_of_getElem? (i := 21) rfl)) (by decide +kernel)
theorem k1_22 : (Cond.instanceMethod ({ cls := "java/lang/Object", name := "<init>", desc := "()V" } : MethodName)) ∈ gW := gW_in (in1 (List.mem_of_getElem? (i := 22) rfl)) (by decide +kernel)
theorem k1_23 : (Cond.code ({ cls := "java/lang/Object", name := "<init>", desc := "()V" } : MethodName) object_method_1_code (1 : Nat) (Option.none : Option ClassFile.FieldType)) ∈ gW := gW_in (in1 (List.mem_of_getElem? (i := 23) rfl)) (by decide +kernel)
theorem k1_24 : (Cond.classLink "BookChecks" (13 : Nat) "BookChecks$Book") ∈ gW := gW_in (in1 (List.mem_of_getElem? (i := 24) rfl)) (by decide +kernel)
theorem k1_25 : (Cond.instantiable "BookChecks$Book" (5 : Nat)) ∈ gW := gW_in (in1 (List.mem_of_getElem? (i := 25) rfl)) (by decide +kernel)
theorem k1_27 : (Cond.instanceMethod ({ cls := "BookChecks$Book", name := "<init>", desc := "()V" } : MethodName)) ∈ gW := gW_in (in1 (List.mem_of_getElem? (i := 27) rfl)) (by decide +kernel)
theorem k1_28 : (Cond.code ({ cls := "BookChecks$Book", name := "<init>", desc := "()V" } : MethodName) prog_3_method_1_code (1 : Nat) (Option.none : Option ClassFile.FieldType)) ∈ gW := gW_in (in1 (List.mem_of_getElem? (i := 28) rfl)) (by decide +kernel)
theorem k1_29 : (Cond.methodLink "BookChecks$Book" (3 : Nat) ({ cls := "java/lang/Object", name := "<init>", desc := "()V" } : MethodName)) ∈ gW := gW_in (in1 (List.mem_of_getElem? (i := 29) rfl)) (by decide +kernel)
theorem k1_30 : (Cond.fieldLink "BookChecks$Book" (9 : Nat) "BookChecks$Book" "ships" "[I") ∈ gW := gW_in (in1 (List.mem_of_getElem? (i := 30) rfl)) (by decide +kernel)
theorem k1_31 : (Cond.fieldLink "BookChecks$Watch" (25 : Nat) "BookChecks$Book" "ships" "[I") ∈ gW := gW_in (in1 (List.mem_of_getElem? (i := 31) rfl)) (by decide +kernel)
theorem k1_32 : (Cond.fieldLink "BookChecks$Risks" (49 : Nat) "BookChecks$Book" "ships" "[I") ∈ gW := gW_in (in1 (List.mem_of_getElem? (i := 32) rfl)) (by decide +kernel)
theorem k1_33 : (Cond.fieldLink "BookChecks$Book" (15 : Nat) "BookChecks$Book" "days" "[I") ∈ gW := gW_in (in1 (List.mem_of_getElem? (i := 33) rfl)) (by decide +kernel)
theorem k1_34 : (Cond.fieldLink "BookChecks$Joins" (35 : Nat) "BookChecks$Book" "days" "[I") ∈ gW := gW_in (in1 (List.mem_of_getElem? (i := 34) rfl)) (by decide +kernel)
theorem k1_35 : (Cond.fieldLink "BookChecks$Book" (18 : Nat) "BookChecks$Book" "kinds" "[I") ∈ gW := gW_in (in1 (List.mem_of_getElem? (i := 35) rfl)) (by decide +kernel)
theorem k1_36 : (Cond.fieldLink "BookChecks$Book" (21 : Nat) "BookChecks$Book" "grams" "[J") ∈ gW := gW_in (in1 (List.mem_of_getElem? (i := 36) rfl)) (by decide +kernel)
theorem k1_37 : (Cond.fieldLink "BookChecks$Watch" (31 : Nat) "BookChecks$Book" "grams" "[J") ∈ gW := gW_in (in1 (List.mem_of_getElem? (i := 37) rfl)) (by decide +kernel)
theorem k1_38 : (Cond.fieldLink "BookChecks$Book" (25 : Nat) "BookChecks$Book" "size" "I") ∈ gW := gW_in (in1 (List.mem_of_getElem? (i := 38) rfl)) (by decide +kernel)
theorem k1_39 : (Cond.fieldLink "BookChecks$Watch" (19 : Nat) "BookChecks$Book" "size" "I") ∈ gW := gW_in (in1 (List.mem_of_getElem? (i := 39) rfl)) (by decide +kernel)
theorem k1_40 : (Cond.fieldLink "BookChecks$Risks" (36 : Nat) "BookChecks$Book" "size" "I") ∈ gW := gW_in (in1 (List.mem_of_getElem? (i := 40) rfl)) (by decide +kernel)
theorem k1_41 : (Cond.fieldLink "BookChecks$Joins" (25 : Nat) "BookChecks$Book" "size" "I") ∈ gW := gW_in (in1 (List.mem_of_getElem? (i := 41) rfl)) (by decide +kernel)
theorem k1_42 : (Cond.fieldLink "BookChecks" (130 : Nat) "BookChecks$Book" "size" "I") ∈ gW := gW_in (in1 (List.mem_of_getElem? (i := 42) rfl)) (by decide +kernel)
theorem k1_43 : (Cond.laysFinal "BookChecks$Book" "BookChecks$Book" "ships" "[I") ∈ gW := gW_in (in1 (List.mem_of_getElem? (i := 43) rfl)) (by decide +kernel)
theorem k1_45 : (Cond.laysFinal "BookChecks$Book" "BookChecks$Book" "days" "[I") ∈ gW := gW_in (in1 (List.mem_of_getElem? (i := 45) rfl)) (by decide +kernel)
theorem k1_47 : (Cond.laysFinal "BookChecks$Book" "BookChecks$Book" "kinds" "[I") ∈ gW := gW_in (in1 (List.mem_of_getElem? (i := 47) rfl)) (by decide +kernel)
theorem k1_49 : (Cond.laysFinal "BookChecks$Book" "BookChecks$Book" "grams" "[J") ∈ gW := gW_in (in1 (List.mem_of_getElem? (i := 49) rfl)) (by decide +kernel)
theorem k1_51 : (Cond.lays "BookChecks$Book" "BookChecks$Book" "size" "I") ∈ gW := gW_in (in1 (List.mem_of_getElem? (i := 51) rfl)) (by decide +kernel)
theorem k1_53 : (Cond.superclass "BookChecks$Book" "java/lang/Object") ∈ gW := gW_in (in1 (List.mem_of_getElem? (i := 53) rfl)) (by decide +kernel)
theorem k1_54 : (Cond.arrayClass ClassFile.FieldType.int) ∈ gW := gW_in (in1 (List.mem_of_getElem? (i := 54) rfl)) (by decide +kernel)
theorem k1_55 : (Cond.arrayClass ClassFile.FieldType.long) ∈ gW := gW_in (in1 (List.mem_of_getElem? (i := 55) rfl)) (by decide +kernel)
theorem k1_56 : (Cond.classLink "BookChecks" (23 : Nat) "BookChecks$Joins") ∈ gW := gW_in (in1 (List.mem_of_getElem? (i := 56) rfl)) (by decide +kernel)
theorem k1_57 : (Cond.instantiable "BookChecks$Joins" (2 : Nat)) ∈ gW := gW_in (in1 (List.mem_of_getElem? (i := 57) rfl)) (by decide +kernel)
theorem k1_58 : (Cond.methodLink "BookChecks" (25 : Nat) ({ cls := "BookChecks$Joins", name := "<init>", desc := "()V" } : MethodName)) ∈ gW := gW_in (in1 (List.mem_of_getElem? (i := 58) rfl)) (by decide +kernel)
theorem k1_59 : (Cond.instanceMethod ({ cls := "BookChecks$Joins", name := "<init>", desc := "()V" } : MethodName)) ∈ gW := gW_in (in1 (List.mem_of_getElem? (i := 59) rfl)) (by decide +kernel)
theorem k1_60 : (Cond.code ({ cls := "BookChecks$Joins", name := "<init>", desc := "()V" } : MethodName) prog_4_method_1_code (1 : Nat) (Option.none : Option ClassFile.FieldType)) ∈ gW := gW_in (in1 (List.mem_of_getElem? (i := 60) rfl)) (by decide +kernel)
theorem k1_61 : (Cond.methodLink "BookChecks$Joins" (3 : Nat) ({ cls := "java/lang/Object", name := "<init>", desc := "()V" } : MethodName)) ∈ gW := gW_in (in1 (List.mem_of_getElem? (i := 61) rfl)) (by decide +kernel)
theorem k1_62 : (Cond.methodLink "BookChecks$Joins" (18 : Nat) ({ cls := "BookChecks$Joins", name := "partAll", desc := "()V" } : MethodName)) ∈ gW := gW_in (in1 (List.mem_of_getElem? (i := 62) rfl)) (by decide +kernel)
theorem k1_64 : (Cond.instanceMethod ({ cls := "BookChecks$Joins", name := "partAll", desc := "()V" } : MethodName)) ∈ gW := gW_in (in1 (List.mem_of_getElem? (i := 64) rfl)) (by decide +kernel)
theorem k1_65 : (Cond.code ({ cls := "BookChecks$Joins", name := "partAll", desc := "()V" } : MethodName) prog_4_method_2_code (2 : Nat) (Option.none : Option ClassFile.FieldType)) ∈ gW := gW_in (in1 (List.mem_of_getElem? (i := 65) rfl)) (by decide +kernel)
theorem k1_66 : (Cond.fieldLink "BookChecks$Joins" (9 : Nat) "BookChecks$Joins" "saleOfPage" "[I") ∈ gW := gW_in (in1 (List.mem_of_getElem? (i := 66) rfl)) (by decide +kernel)
theorem k1_67 : (Cond.fieldLink "BookChecks$Joins" (15 : Nat) "BookChecks$Joins" "pageOfSale" "[I") ∈ gW := gW_in (in1 (List.mem_of_getElem? (i := 67) rfl)) (by decide +kernel)
theorem k1_68 : (Cond.laysFinal "BookChecks$Joins" "BookChecks$Joins" "saleOfPage" "[I") ∈ gW := gW_in (in1 (List.mem_of_getElem? (i := 68) rfl)) (by decide +kernel)
theorem k1_70 : (Cond.laysFinal "BookChecks$Joins" "BookChecks$Joins" "pageOfSale" "[I") ∈ gW := gW_in (in1 (List.mem_of_getElem? (i := 70) rfl)) (by decide +kernel)
theorem k1_72 : (Cond.superclass "BookChecks$Joins" "java/lang/Object") ∈ gW := gW_in (in1 (List.mem_of_getElem? (i := 72) rfl)) (by decide +kernel)
theorem k1_73 : (Cond.classLink "BookChecks" (30 : Nat) "BookChecks$Plants") ∈ gW := gW_in (in1 (List.mem_of_getElem? (i := 73) rfl)) (by decide +kernel)
theorem k1_74 : (Cond.instantiable "BookChecks$Plants" (6 : Nat)) ∈ gW := gW_in (in1 (List.mem_of_getElem? (i := 74) rfl)) (by decide +kernel)
theorem k1_76 : (Cond.instanceMethod ({ cls := "BookChecks$Plants", name := "<init>", desc := "()V" } : MethodName)) ∈ gW := gW_in (in1 (List.mem_of_getElem? (i := 76) rfl)) (by decide +kernel)
theorem k1_77 : (Cond.code ({ cls := "BookChecks$Plants", name := "<init>", desc := "()V" } : MethodName) prog_5_method_1_code (1 : Nat) (Option.none : Option ClassFile.FieldType)) ∈ gW := gW_in (in1 (List.mem_of_getElem? (i := 77) rfl)) (by decide +kernel)
theorem k1_78 : (Cond.methodLink "BookChecks$Plants" (3 : Nat) ({ cls := "java/lang/Object", name := "<init>", desc := "()V" } : MethodName)) ∈ gW := gW_in (in1 (List.mem_of_getElem? (i := 78) rfl)) (by decide +kernel)
theorem k1_79 : (Cond.fieldLink "BookChecks$Plants" (9 : Nat) "BookChecks$Plants" "cameIn" "[J") ∈ gW := gW_in (in1 (List.mem_of_getElem? (i := 79) rfl)) (by decide +kernel)
theorem k1_80 : (Cond.fieldLink "BookChecks$Plants" (15 : Nat) "BookChecks$Plants" "kinds" "[I") ∈ gW := gW_in (in1 (List.mem_of_getElem? (i := 80) rfl)) (by decide +kernel)
theorem k1_81 : (Cond.fieldLink "BookChecks$Plants" (19 : Nat) "BookChecks$Plants" "outs" "[I") ∈ gW := gW_in (in1 (List.mem_of_getElem? (i := 81) rfl)) (by decide +kernel)
theorem k1_82 : (Cond.fieldLink "BookChecks$Plants" (22 : Nat) "BookChecks$Plants" "outKinds" "[I") ∈ gW := gW_in (in1 (List.mem_of_getElem? (i := 82) rfl)) (by decide +kernel)
theorem k1_83 : (Cond.fieldLink "BookChecks$Plants" (25 : Nat) "BookChecks$Plants" "outGrams" "[J") ∈ gW := gW_in (in1 (List.mem_of_getElem? (i := 83) rfl)) (by decide +kernel)
theorem k1_84 : (Cond.fieldLink "BookChecks$Plants" (28 : Nat) "BookChecks$Plants" "size" "I") ∈ gW := gW_in (in1 (List.mem_of_getElem? (i := 84) rfl)) (by decide +kernel)
theorem k1_85 : (Cond.laysFinal "BookChecks$Plants" "BookChecks$Plants" "cameIn" "[J") ∈ gW := gW_in (in1 (List.mem_of_getElem? (i := 85) rfl)) (by decide +kernel)
theorem k1_87 : (Cond.laysFinal "BookChecks$Plants" "BookChecks$Plants" "kinds" "[I") ∈ gW := gW_in (in1 (List.mem_of_getElem? (i := 87) rfl)) (by decide +kernel)
theorem k1_89 : (Cond.laysFinal "BookChecks$Plants" "BookChecks$Plants" "outs" "[I") ∈ gW := gW_in (in1 (List.mem_of_getElem? (i := 89) rfl)) (by decide +kernel)
theorem k1_91 : (Cond.laysFinal "BookChecks$Plants" "BookChecks$Plants" "outKinds" "[I") ∈ gW := gW_in (in1 (List.mem_of_getElem? (i := 91) rfl)) (by decide +kernel)
theorem k1_93 : (Cond.laysFinal "BookChecks$Plants" "BookChecks$Plants" "outGrams" "[J") ∈ gW := gW_in (in1 (List.mem_of_getElem? (i := 93) rfl)) (by decide +kernel)
theorem k1_95 : (Cond.lays "BookChecks$Plants" "BookChecks$Plants" "size" "I") ∈ gW := gW_in (in1 (List.mem_of_getElem? (i := 95) rfl)) (by decide +kernel)
theorem k1_97 : (Cond.superclass "BookChecks$Plants" "java/lang/Object") ∈ gW := gW_in (in1 (List.mem_of_getElem? (i := 97) rfl)) (by decide +kernel)
theorem k1_98 : (Cond.classLink "BookChecks" (37 : Nat) "BookChecks$Risks") ∈ gW := gW_in (in1 (List.mem_of_getElem? (i := 98) rfl)) (by decide +kernel)
theorem k1_99 : (Cond.instantiable "BookChecks$Risks" (2 : Nat)) ∈ gW := gW_in (in1 (List.mem_of_getElem? (i := 99) rfl)) (by decide +kernel)
theorem k1_100 : (Cond.methodLink "BookChecks" (39 : Nat) ({ cls := "BookChecks$Risks", name := "<init>", desc := "()V" } : MethodName)) ∈ gW := gW_in (in1 (List.mem_of_getElem? (i := 100) rfl)) (by decide +kernel)
theorem k1_101 : (Cond.instanceMethod ({ cls := "BookChecks$Risks", name := "<init>", desc := "()V" } : MethodName)) ∈ gW := gW_in (in1 (List.mem_of_getElem? (i := 101) rfl)) (by decide +kernel)
theorem k1_102 : (Cond.code ({ cls := "BookChecks$Risks", name := "<init>", desc := "()V" } : MethodName) prog_6_method_1_code (2 : Nat) (Option.none : Option ClassFile.FieldType)) ∈ gW := gW_in (in1 (List.mem_of_getElem? (i := 102) rfl)) (by decide +kernel)
theorem k1_103 : (Cond.methodLink "BookChecks$Risks" (3 : Nat) ({ cls := "java/lang/Object", name := "<init>", desc := "()V" } : MethodName)) ∈ gW := gW_in (in1 (List.mem_of_getElem? (i := 103) rfl)) (by decide +kernel)
theorem k1_104 : (Cond.fieldLink "BookChecks$Risks" (9 : Nat) "BookChecks$Risks" "weightOfShip" "[I") ∈ gW := gW_in (in1 (List.mem_of_getElem? (i := 104) rfl)) (by decide +kernel)
theorem k1_105 : (Cond.fieldLink "BookChecks$Risks" (15 : Nat) "BookChecks$Risks" "weightLeft" "[I") ∈ gW := gW_in (in1 (List.mem_of_getElem? (i := 105) rfl)) (by decide +kernel)
theorem k1_106 : (Cond.laysFinal "BookChecks$Risks" "BookChecks$Risks" "weightOfShip" "[I") ∈ gW := gW_in (in1 (List.mem_of_getElem? (i := 106) rfl)) (by decide +kernel)
theorem k1_108 : (Cond.laysFinal "BookChecks$Risks" "BookChecks$Risks" "weightLeft" "[I") ∈ gW := gW_in (in1 (List.mem_of_getElem? (i := 108) rfl)) (by decide +kernel)
theorem k1_110 : (Cond.superclass "BookChecks$Risks" "java/lang/Object") ∈ gW := gW_in (in1 (List.mem_of_getElem? (i := 110) rfl)) (by decide +kernel)
theorem k1_111 : (Cond.classLink "BookChecks" (44 : Nat) "BookChecks$Row") ∈ gW := gW_in (in1 (List.mem_of_getElem? (i := 111) rfl)) (by decide +kernel)
theorem k1_112 : (Cond.instantiable "BookChecks$Row" (3 : Nat)) ∈ gW := gW_in (in1 (List.mem_of_getElem? (i := 112) rfl)) (by decide +kernel)
theorem k1_114 : (Cond.instanceMethod ({ cls := "BookChecks$Row", name := "<init>", desc := "()V" } : MethodName)) ∈ gW := gW_in (in1 (List.mem_of_getElem? (i := 114) rfl)) (by decide +kernel)
theorem k1_115 : (Cond.code ({ cls := "BookChecks$Row", name := "<init>", desc := "()V" } : MethodName) prog_7_method_1_code (1 : Nat) (Option.none : Option ClassFile.FieldType)) ∈ gW := gW_in (in1 (List.mem_of_getElem? (i := 115) rfl)) (by decide +kernel)
theorem k1_116 : (Cond.methodLink "BookChecks$Row" (3 : Nat) ({ cls := "java/lang/Object", name := "<init>", desc := "()V" } : MethodName)) ∈ gW := gW_in (in1 (List.mem_of_getElem? (i := 116) rfl)) (by decide +kernel)
theorem k1_117 : (Cond.fieldLink "BookChecks$Row" (9 : Nat) "BookChecks$Row" "taken" "[I") ∈ gW := gW_in (in1 (List.mem_of_getElem? (i := 117) rfl)) (by decide +kernel)
theorem k1_118 : (Cond.fieldLink "BookChecks$Row" (15 : Nat) "BookChecks$Row" "size" "I") ∈ gW := gW_in (in1 (List.mem_of_getElem? (i := 118) rfl)) (by decide +kernel)
theorem k1_119 : (Cond.fieldLink "BookChecks" (138 : Nat) "BookChecks$Row" "size" "I") ∈ gW := gW_in (in1 (List.mem_of_getElem? (i := 119) rfl)) (by decide +kernel)
theorem k1_120 : (Cond.fieldLink "BookChecks$Row" (19 : Nat) "BookChecks$Row" "asked" "I") ∈ gW := gW_in (in1 (List.mem_of_getElem? (i := 120) rfl)) (by decide +kernel)
theorem k1_121 : (Cond.fieldLink "BookChecks" (142 : Nat) "BookChecks$Row" "asked" "I") ∈ gW := gW_in (in1 (List.mem_of_getElem? (i := 121) rfl)) (by decide +kernel)
theorem k1_122 : (Cond.laysFinal "BookChecks$Row" "BookChecks$Row" "taken" "[I") ∈ gW := gW_in (in1 (List.mem_of_getElem? (i := 122) rfl)) (by decide +kernel)
theorem k1_124 : (Cond.lays "BookChecks$Row" "BookChecks$Row" "size" "I") ∈ gW := gW_in (in1 (List.mem_of_getElem? (i := 124) rfl)) (by decide +kernel)
theorem k1_126 : (Cond.lays "BookChecks$Row" "BookChecks$Row" "asked" "I") ∈ gW := gW_in (in1 (List.mem_of_getElem? (i := 126) rfl)) (by decide +kernel)
theorem k1_128 : (Cond.superclass "BookChecks$Row" "java/lang/Object") ∈ gW := gW_in (in1 (List.mem_of_getElem? (i := 128) rfl)) (by decide +kernel)
theorem k1_129 : (Cond.classLink "BookChecks" (54 : Nat) "BookChecks$Watch") ∈ gW := gW_in (in1 (List.mem_of_getElem? (i := 129) rfl)) (by decide +kernel)
theorem k1_130 : (Cond.instantiable "BookChecks$Watch" (1 : Nat)) ∈ gW := gW_in (in1 (List.mem_of_getElem? (i := 130) rfl)) (by decide +kernel)
theorem k1_132 : (Cond.instanceMethod ({ cls := "BookChecks$Watch", name := "<init>", desc := "()V" } : MethodName)) ∈ gW := gW_in (in1 (List.mem_of_getElem? (i := 132) rfl)) (by decide +kernel)
theorem k1_133 : (Cond.code ({ cls := "BookChecks$Watch", name := "<init>", desc := "()V" } : MethodName) prog_8_method_1_code (1 : Nat) (Option.none : Option ClassFile.FieldType)) ∈ gW := gW_in (in1 (List.mem_of_getElem? (i := 133) rfl)) (by decide +kernel)
theorem k1_134 : (Cond.methodLink "BookChecks$Watch" (3 : Nat) ({ cls := "java/lang/Object", name := "<init>", desc := "()V" } : MethodName)) ∈ gW := gW_in (in1 (List.mem_of_getElem? (i := 134) rfl)) (by decide +kernel)
theorem k1_135 : (Cond.fieldLink "BookChecks$Watch" (9 : Nat) "BookChecks$Watch" "minutesOf" "[J") ∈ gW := gW_in (in1 (List.mem_of_getElem? (i := 135) rfl)) (by decide +kernel)
theorem k1_136 : (Cond.laysFinal "BookChecks$Watch" "BookChecks$Watch" "minutesOf" "[J") ∈ gW := gW_in (in1 (List.mem_of_getElem? (i := 136) rfl)) (by decide +kernel)
theorem k1_138 : (Cond.superclass "BookChecks$Watch" "java/lang/Object") ∈ gW := gW_in (in1 (List.mem_of_getElem? (i := 138) rfl)) (by decide +kernel)
theorem k1_139 : (Cond.classLink "BookChecks" (61 : Nat) "BookChecks$Acts") ∈ gW := gW_in (in1 (List.mem_of_getElem? (i := 139) rfl)) (by decide +kernel)
theorem k1_140 : (Cond.instantiable "BookChecks$Acts" (3 : Nat)) ∈ gW := gW_in (in1 (List.mem_of_getElem? (i := 140) rfl)) (by decide +kernel)
theorem k1_141 : (Cond.methodLink "BookChecks" (63 : Nat) ({ cls := "BookChecks$Acts", name := "<init>", desc := "()V" } : MethodName)) ∈ gW := gW_in (in1 (List.mem_of_getElem? (i := 141) rfl)) (by decide +kernel)
theorem k1_142 : (Cond.instanceMethod ({ cls := "BookChecks$Acts", name := "<init>", desc := "()V" } : MethodName)) ∈ gW := gW_in (in1 (List.mem_of_getElem? (i := 142) rfl)) (by decide +kernel)
theorem k1_143 : (Cond.code ({ cls := "BookChecks$Acts", name := "<init>", desc := "()V" } : MethodName) prog_2_method_1_code (2 : Nat) (Option.none : Option ClassFile.FieldType)) ∈ gW := gW_in (in1 (List.mem_of_getElem? (i := 143) rfl)) (by decide +kernel)
theorem k1_144 : (Cond.methodLink "BookChecks$Acts" (3 : Nat) ({ cls := "java/lang/Object", name := "<init>", desc := "()V" } : MethodName)) ∈ gW := gW_in (in1 (List.mem_of_getElem? (i := 144) rfl)) (by decide +kernel)
theorem k1_145 : (Cond.fieldLink "BookChecks$Acts" (9 : Nat) "BookChecks$Acts" "states" "[I") ∈ gW := gW_in (in1 (List.mem_of_getElem? (i := 145) rfl)) (by decide +kernel)
theorem k1_146 : (Cond.fieldLink "BookChecks" (167 : Nat) "BookChecks$Acts" "states" "[I") ∈ gW := gW_in (in1 (List.mem_of_getElem? (i := 146) rfl)) (by decide +kernel)
theorem k1_147 : (Cond.fieldLink "BookChecks$Acts" (15 : Nat) "BookChecks$Acts" "wrongs" "[I") ∈ gW := gW_in (in1 (List.mem_of_getElem? (i := 147) rfl)) (by decide +kernel)
theorem k1_148 : (Cond.fieldLink "BookChecks" (171 : Nat) "BookChecks$Acts" "wrongs" "[I") ∈ gW := gW_in (in1 (List.mem_of_getElem? (i := 148) rfl)) (by decide +kernel)
theorem k1_149 : (Cond.fieldLink "BookChecks$Acts" (18 : Nat) "BookChecks$Acts" "latestPersons" "[I") ∈ gW := gW_in (in1 (List.mem_of_getElem? (i := 149) rfl)) (by decide +kernel)
theorem k1_150 : (Cond.laysFinal "BookChecks$Acts" "BookChecks$Acts" "states" "[I") ∈ gW := gW_in (in1 (List.mem_of_getElem? (i := 150) rfl)) (by decide +kernel)
theorem k1_152 : (Cond.laysFinal "BookChecks$Acts" "BookChecks$Acts" "wrongs" "[I") ∈ gW := gW_in (in1 (List.mem_of_getElem? (i := 152) rfl)) (by decide +kernel)
theorem k1_154 : (Cond.laysFinal "BookChecks$Acts" "BookChecks$Acts" "latestPersons" "[I") ∈ gW := gW_in (in1 (List.mem_of_getElem? (i := 154) rfl)) (by decide +kernel)
theorem k1_156 : (Cond.superclass "BookChecks$Acts" "java/lang/Object") ∈ gW := gW_in (in1 (List.mem_of_getElem? (i := 156) rfl)) (by decide +kernel)
theorem k1_157 : (Cond.fieldLink "BookChecks" (7 : Nat) "BookChecks" "seed" "J") ∈ gW := gW_in (in1 (List.mem_of_getElem? (i := 157) rfl)) (by decide +kernel)
theorem k1_158 : (Cond.fieldLink "BookChecks" (16 : Nat) "BookChecks" "pages" "LBookChecks$Book;") ∈ gW := gW_in (in1 (List.mem_of_getElem? (i := 158) rfl)) (by decide +kernel)
theorem k1_159 : (Cond.fieldLink "BookChecks" (20 : Nat) "BookChecks" "sales" "LBookChecks$Book;") ∈ gW := gW_in (in1 (List.mem_of_getElem? (i := 159) rfl)) (by decide +kernel)
theorem k1_160 : (Cond.fieldLink "BookChecks" (26 : Nat) "BookChecks" "joins" "LBookChecks$Joins;") ∈ gW := gW_in (in1 (List.mem_of_getElem? (i := 160) rfl)) (by decide +kernel)
theorem k1_161 : (Cond.fieldLink "BookChecks" (33 : Nat) "BookChecks" "plants" "LBookChecks$Plants;") ∈ gW := gW_in (in1 (List.mem_of_getElem? (i := 161) rfl)) (by decide +kernel)
theorem k1_162 : (Cond.fieldLink "BookChecks" (40 : Nat) "BookChecks" "risks" "LBookChecks$Risks;") ∈ gW := gW_in (in1 (List.mem_of_getElem? (i := 162) rfl)) (by decide +kernel)
theorem k1_163 : (Cond.fieldLink "BookChecks" (47 : Nat) "BookChecks" "latest" "LBookChecks$Row;") ∈ gW := gW_in (in1 (List.mem_of_getElem? (i := 163) rfl)) (by decide +kernel)
theorem k1_164 : (Cond.fieldLink "BookChecks" (51 : Nat) "BookChecks" "trial" "LBookChecks$Row;") ∈ gW := gW_in (in1 (List.mem_of_getElem? (i := 164) rfl)) (by decide +kernel)
theorem k1_165 : (Cond.fieldLink "BookChecks" (57 : Nat) "BookChecks" "watch" "LBookChecks$Watch;") ∈ gW := gW_in (in1 (List.mem_of_getElem? (i := 165) rfl)) (by decide +kernel)
theorem k1_166 : (Cond.fieldLink "BookChecks" (64 : Nat) "BookChecks" "acts" "LBookChecks$Acts;") ∈ gW := gW_in (in1 (List.mem_of_getElem? (i := 166) rfl)) (by decide +kernel)
theorem k1_167 : (Cond.laysFinal "BookChecks" "BookChecks" "seed" "J") ∈ gW := gW_in (in1 (List.mem_of_getElem? (i := 167) rfl)) (by decide +kernel)
theorem k1_169 : (Cond.laysFinal "BookChecks" "BookChecks" "pages" "LBookChecks$Book;") ∈ gW := gW_in (in1 (List.mem_of_getElem? (i := 169) rfl)) (by decide +kernel)
theorem k1_171 : (Cond.laysFinal "BookChecks" "BookChecks" "sales" "LBookChecks$Book;") ∈ gW := gW_in (in1 (List.mem_of_getElem? (i := 171) rfl)) (by decide +kernel)
theorem k1_173 : (Cond.laysFinal "BookChecks" "BookChecks" "joins" "LBookChecks$Joins;") ∈ gW := gW_in (in1 (List.mem_of_getElem? (i := 173) rfl)) (by decide +kernel)
theorem k1_175 : (Cond.laysFinal "BookChecks" "BookChecks" "plants" "LBookChecks$Plants;") ∈ gW := gW_in (in1 (List.mem_of_getElem? (i := 175) rfl)) (by decide +kernel)
theorem k1_177 : (Cond.laysFinal "BookChecks" "BookChecks" "risks" "LBookChecks$Risks;") ∈ gW := gW_in (in1 (List.mem_of_getElem? (i := 177) rfl)) (by decide +kernel)
theorem k1_179 : (Cond.laysFinal "BookChecks" "BookChecks" "latest" "LBookChecks$Row;") ∈ gW := gW_in (in1 (List.mem_of_getElem? (i := 179) rfl)) (by decide +kernel)
theorem k1_181 : (Cond.laysFinal "BookChecks" "BookChecks" "trial" "LBookChecks$Row;") ∈ gW := gW_in (in1 (List.mem_of_getElem? (i := 181) rfl)) (by decide +kernel)
theorem k1_183 : (Cond.laysFinal "BookChecks" "BookChecks" "watch" "LBookChecks$Watch;") ∈ gW := gW_in (in1 (List.mem_of_getElem? (i := 183) rfl)) (by decide +kernel)
theorem k1_185 : (Cond.laysFinal "BookChecks" "BookChecks" "acts" "LBookChecks$Acts;") ∈ gW := gW_in (in1 (List.mem_of_getElem? (i := 185) rfl)) (by decide +kernel)
theorem k1_187 : (Cond.superclass "BookChecks" "java/lang/Object") ∈ gW := gW_in (in1 (List.mem_of_getElem? (i := 187) rfl)) (by decide +kernel)
theorem k1_188 : (Cond.methodLink "BookChecksLaw" (29 : Nat) ({ cls := "BookChecks", name := "page", desc := "(IIIJ)I" } : MethodName)) ∈ gW := gW_in (in1 (List.mem_of_getElem? (i := 188) rfl)) (by decide +kernel)
theorem k1_189 : (Cond.instanceMethod ({ cls := "BookChecks", name := "page", desc := "(IIIJ)I" } : MethodName)) ∈ gW := gW_in (in1 (List.mem_of_getElem? (i := 189) rfl)) (by decide +kernel)
theorem k1_190 : (Cond.selects "BookChecks" ({ cls := "BookChecks", name := "page", desc := "(IIIJ)I" } : MethodName) ({ cls := "BookChecks", name := "page", desc := "(IIIJ)I" } : MethodName)) ∈ gW := gW_in (in1 (List.mem_of_getElem? (i := 190) rfl)) (by decide +kernel)
theorem k1_191 : (Cond.code ({ cls := "BookChecks", name := "page", desc := "(IIIJ)I" } : MethodName) prog_1_method_2_code (6 : Nat) (Option.some ClassFile.FieldType.int)) ∈ gW := gW_in (in1 (List.mem_of_getElem? (i := 191) rfl)) (by decide +kernel)
theorem k1_192 : (Cond.methodLink "BookChecks" (68 : Nat) ({ cls := "BookChecks$Book", name := "add", desc := "(IIIJ)I" } : MethodName)) ∈ gW := gW_in (in1 (List.mem_of_getElem? (i := 192) rfl)) (by decide +kernel)
theorem k1_193 : (Cond.instanceMethod ({ cls := "BookChecks$Book", name := "add", desc := "(IIIJ)I" } : MethodName)) ∈ gW := gW_in (in1 (List.mem_of_getElem? (i := 193) rfl)) (by decide +kernel)
theorem k1_194 : (Cond.selects "BookChecks$Book" ({ cls := "BookChecks$Book", name := "add", desc := "(IIIJ)I" } : MethodName) ({ cls := "BookChecks$Book", name := "add", desc := "(IIIJ)I" } : MethodName)) ∈ gW := gW_in (in1 (List.mem_of_getElem? (i := 194) rfl)) (by decide +kernel)
theorem k1_195 : (Cond.code ({ cls := "BookChecks$Book", name := "add", desc := "(IIIJ)I" } : MethodName) prog_3_method_2_code (7 : Nat) (Option.some ClassFile.FieldType.int)) ∈ gW := gW_in (in1 (List.mem_of_getElem? (i := 195) rfl)) (by decide +kernel)
theorem k1_197 : (Cond.static ({ cls := "BookChecks", name := "isShip", desc := "(I)Z" } : MethodName)) ∈ gW := gW_in (in1 (List.mem_of_getElem? (i := 197) rfl)) (by decide +kernel)
theorem k1_198 : (Cond.code ({ cls := "BookChecks", name := "isShip", desc := "(I)Z" } : MethodName) prog_1_method_24_code (1 : Nat) (Option.some ClassFile.FieldType.boolean)) ∈ gW := gW_in (in1 (List.mem_of_getElem? (i := 198) rfl)) (by decide +kernel)
theorem k1_200 : (Cond.static ({ cls := "BookChecks", name := "isDay", desc := "(I)Z" } : MethodName)) ∈ gW := gW_in (in1 (List.mem_of_getElem? (i := 200) rfl)) (by decide +kernel)
theorem k1_201 : (Cond.code ({ cls := "BookChecks", name := "isDay", desc := "(I)Z" } : MethodName) prog_1_method_26_code (1 : Nat) (Option.some ClassFile.FieldType.boolean)) ∈ gW := gW_in (in1 (List.mem_of_getElem? (i := 201) rfl)) (by decide +kernel)
theorem k1_202 : (Cond.constant "BookChecks" (174 : Nat) (100000 : Int32)) ∈ gW := gW_in (in1 (List.mem_of_getElem? (i := 202) rfl)) (by decide +kernel)
theorem k1_204 : (Cond.static ({ cls := "BookChecks", name := "isKind", desc := "(I)Z" } : MethodName)) ∈ gW := gW_in (in1 (List.mem_of_getElem? (i := 204) rfl)) (by decide +kernel)
theorem k1_205 : (Cond.code ({ cls := "BookChecks", name := "isKind", desc := "(I)Z" } : MethodName) prog_1_method_25_code (1 : Nat) (Option.some ClassFile.FieldType.boolean)) ∈ gW := gW_in (in1 (List.mem_of_getElem? (i := 205) rfl)) (by decide +kernel)
theorem k1_207 : (Cond.static ({ cls := "BookChecks", name := "isWeighed", desc := "(J)Z" } : MethodName)) ∈ gW := gW_in (in1 (List.mem_of_getElem? (i := 207) rfl)) (by decide +kernel)
theorem k1_208 : (Cond.code ({ cls := "BookChecks", name := "isWeighed", desc := "(J)Z" } : MethodName) prog_1_method_27_code (2 : Nat) (Option.some ClassFile.FieldType.boolean)) ∈ gW := gW_in (in1 (List.mem_of_getElem? (i := 208) rfl)) (by decide +kernel)
theorem k1_209 : (Cond.constantLong "BookChecks" (175 : Nat) (1000000000 : Int64)) ∈ gW := gW_in (in1 (List.mem_of_getElem? (i := 209) rfl)) (by decide +kernel)
theorem k1_210 : (Cond.methodLink "BookChecksLaw" (34 : Nat) ({ cls := "BookChecks", name := "sale", desc := "(IIIJ)I" } : MethodName)) ∈ gW := gW_in (in1 (List.mem_of_getElem? (i := 210) rfl)) (by decide +kernel)
theorem k1_211 : (Cond.instanceMethod ({ cls := "BookChecks", name := "sale", desc := "(IIIJ)I" } : MethodName)) ∈ gW := gW_in (in1 (List.mem_of_getElem? (i := 211) rfl)) (by decide +kernel)
theorem k1_212 : (Cond.selects "BookChecks" ({ cls := "BookChecks", name := "sale", desc := "(IIIJ)I" } : MethodName) ({ cls := "BookChecks", name := "sale", desc := "(IIIJ)I" } : MethodName)) ∈ gW := gW_in (in1 (List.mem_of_getElem? (i := 212) rfl)) (by decide +kernel)
theorem k1_213 : (Cond.code ({ cls := "BookChecks", name := "sale", desc := "(IIIJ)I" } : MethodName) prog_1_method_3_code (6 : Nat) (Option.some ClassFile.FieldType.int)) ∈ gW := gW_in (in1 (List.mem_of_getElem? (i := 213) rfl)) (by decide +kernel)
theorem k1_214 : (Cond.methodLink "BookChecksLaw" (38 : Nat) ({ cls := "BookChecks", name := "run", desc := "()I" } : MethodName)) ∈ gW := gW_in (in1 (List.mem_of_getElem? (i := 214) rfl)) (by decide +kernel)
theorem k1_215 : (Cond.instanceMethod ({ cls := "BookChecks", name := "run", desc := "()I" } : MethodName)) ∈ gW := gW_in (in1 (List.mem_of_getElem? (i := 215) rfl)) (by decide +kernel)
theorem k1_216 : (Cond.selects "BookChecks" ({ cls := "BookChecks", name := "run", desc := "()I" } : MethodName) ({ cls := "BookChecks", name := "run", desc := "()I" } : MethodName)) ∈ gW := gW_in (in1 (List.mem_of_getElem? (i := 216) rfl)) (by decide +kernel)
theorem k1_217 : (Cond.code ({ cls := "BookChecks", name := "run", desc := "()I" } : MethodName) prog_1_method_4_code (1 : Nat) (Option.some ClassFile.FieldType.int)) ∈ gW := gW_in (in1 (List.mem_of_getElem? (i := 217) rfl)) (by decide +kernel)
theorem k1_218 : (Cond.methodLink "BookChecks" (72 : Nat) ({ cls := "BookChecks$Joins", name := "joinAnew", desc := "(LBookChecks$Book;LBookChecks$Book;)I" } : MethodName)) ∈ gW := gW_in (in1 (List.mem_of_getElem? (i := 218) rfl)) (by decide +kernel)
theorem k1_219 : (Cond.instanceMethod ({ cls := "BookChecks$Joins", name := "joinAnew", desc := "(LBookChecks$Book;LBookChecks$Book;)I" } : MethodName)) ∈ gW := gW_in (in1 (List.mem_of_getElem? (i := 219) rfl)) (by decide +kernel)
theorem k1_220 : (Cond.selects "BookChecks$Joins" ({ cls := "BookChecks$Joins", name := "joinAnew", desc := "(LBookChecks$Book;LBookChecks$Book;)I" } : MethodName) ({ cls := "BookChecks$Joins", name := "joinAnew", desc := "(LBookChecks$Book;LBookChecks$Book;)I" } : MethodName)) ∈ gW := gW_in (in1 (List.mem_of_getElem? (i := 220) rfl)) (by decide +kernel)
theorem k1_221 : (Cond.code ({ cls := "BookChecks$Joins", name := "joinAnew", desc := "(LBookChecks$Book;LBookChecks$Book;)I" } : MethodName) prog_4_method_3_code (5 : Nat) (Option.some ClassFile.FieldType.int)) ∈ gW := gW_in (in1 (List.mem_of_getElem? (i := 221) rfl)) (by decide +kernel)
theorem k1_222 : (Cond.methodLink "BookChecks$Joins" (21 : Nat) ({ cls := "BookChecks$Joins", name := "joinBest", desc := "(LBookChecks$Book;LBookChecks$Book;)Z" } : MethodName)) ∈ gW := gW_in (in1 (List.mem_of_getElem? (i := 222) rfl)) (by decide +kernel)
theorem k1_224 : (Cond.instanceMethod ({ cls := "BookChecks$Joins", name := "joinBest", desc := "(LBookChecks$Book;LBookChecks$Book;)Z" } : MethodName)) ∈ gW := gW_in (in1 (List.mem_of_getElem? (i := 224) rfl)) (by decide +kernel)
theorem k1_225 : (Cond.code ({ cls := "BookChecks$Joins", name := "joinBest", desc := "(LBookChecks$Book;LBookChecks$Book;)Z" } : MethodName) prog_4_method_4_code (9 : Nat) (Option.some ClassFile.FieldType.boolean)) ∈ gW := gW_in (in1 (List.mem_of_getElem? (i := 225) rfl)) (by decide +kernel)
theorem k1_226 : (Cond.methodLink "BookChecks$Joins" (31 : Nat) ({ cls := "BookChecks$Book", name := "fitWith", desc := "(ILBookChecks$Book;I)I" } : MethodName)) ∈ gW := gW_in (in1 (List.mem_of_getElem? (i := 226) rfl)) (by decide +kernel)
theorem k1_227 : (Cond.instanceMethod ({ cls := "BookChecks$Book", name := "fitWith", desc := "(ILBookChecks$Book;I)I" } : MethodName)) ∈ gW := gW_in (in1 (List.mem_of_getElem? (i := 227) rfl)) (by decide +kernel)
theorem k1_228 : (Cond.selects "BookChecks$Book" ({ cls := "BookChecks$Book", name := "fitWith", desc := "(ILBookChecks$Book;I)I" } : MethodName) ({ cls := "BookChecks$Book", name := "fitWith", desc := "(ILBookChecks$Book;I)I" } : MethodName)) ∈ gW := gW_in (in1 (List.mem_of_getElem? (i := 228) rfl)) (by decide +kernel)
theorem k1_229 : (Cond.code ({ cls := "BookChecks$Book", name := "fitWith", desc := "(ILBookChecks$Book;I)I" } : MethodName) prog_3_method_6_code (6 : Nat) (Option.some ClassFile.FieldType.int)) ∈ gW := gW_in (in1 (List.mem_of_getElem? (i := 229) rfl)) (by decide +kernel)
theorem k1_230 : (Cond.methodLink "BookChecks$Book" (43 : Nat) ({ cls := "BookChecks$Book", name := "has", desc := "(I)Z" } : MethodName)) ∈ gW := gW_in (in1 (List.mem_of_getElem? (i := 230) rfl)) (by decide +kernel)
theorem k1_231 : (Cond.instanceMethod ({ cls := "BookChecks$Book", name := "has", desc := "(I)Z" } : MethodName)) ∈ gW := gW_in (in1 (List.mem_of_getElem? (i := 231) rfl)) (by decide +kernel)
theorem k1_232 : (Cond.selects "BookChecks$Book" ({ cls := "BookChecks$Book", name := "has", desc := "(I)Z" } : MethodName) ({ cls := "BookChecks$Book", name := "has", desc := "(I)Z" } : MethodName)) ∈ gW := gW_in (in1 (List.mem_of_getElem? (i := 232) rfl)) (by decide +kernel)
theorem k1_233 : (Cond.code ({ cls := "BookChecks$Book", name := "has", desc := "(I)Z" } : MethodName) prog_3_method_3_code (2 : Nat) (Option.some ClassFile.FieldType.boolean)) ∈ gW := gW_in (in1 (List.mem_of_getElem? (i := 233) rfl)) (by decide +kernel)
theorem k1_234 : (Cond.methodLink "BookChecks$Book" (46 : Nat) ({ cls := "BookChecks$Book", name := "lostByGrams", desc := "(JJ)I" } : MethodName)) ∈ gW := gW_in (in1 (List.mem_of_getElem? (i := 234) rfl)) (by decide +kernel)
theorem k1_235 : (Cond.static ({ cls := "BookChecks$Book", name := "lostByGrams", desc := "(JJ)I" } : MethodName)) ∈ gW := gW_in (in1 (List.mem_of_getElem? (i := 235) rfl)) (by decide +kernel)
theorem k1_236 : (Cond.code ({ cls := "BookChecks$Book", name := "lostByGrams", desc := "(JJ)I" } : MethodName) prog_3_method_7_code (6 : Nat) (Option.some ClassFile.FieldType.int)) ∈ gW := gW_in (in1 (List.mem_of_getElem? (i := 236) rfl)) (by decide +kernel)
theorem k1_237 : (Cond.methodLink "BookChecks$Book" (56 : Nat) ({ cls := "java/lang/Math", name := "max", desc := "(JJ)J" } : MethodName)) ∈ gW := gW_in (in1 (List.mem_of_getElem? (i := 237) rfl)) (by decide +kernel)
theorem k1_238 : (Cond.static ({ cls := "java/lang/Math", name := "max", desc := "(JJ)J" } : MethodName)) ∈ gW := gW_in (in1 (List.mem_of_getElem? (i := 238) rfl)) (by decide +kernel)
theorem k1_239 : (Cond.code ({ cls := "java/lang/Math", name := "max", desc := "(JJ)J" } : MethodName) prog_14_method_66_code (4 : Nat) (Option.some ClassFile.FieldType.long)) ∈ gW := gW_in (in1 (List.mem_of_getElem? (i := 239) rfl)) (by decide +kernel)
theorem k2_0 : (Cond.constantLong "BookChecks$Book" (59 : Nat) (900 : Int64)) ∈ gW := gW_in (in2 (List.mem_of_getElem? (i := 0) rfl)) (by decide +kernel)
theorem k2_1 : (Cond.methodLink "BookChecks$Book" (61 : Nat) ({ cls := "java/lang/Math", name := "abs", desc := "(J)J" } : MethodName)) ∈ gW := gW_in (in2 (List.mem_of_getElem? (i := 1) rfl)) (by decide +kernel)
theorem k2_2 : (Cond.static ({ cls := "java/lang/Math", name := "abs", desc := "(J)J" } : MethodName)) ∈ gW := gW_in (in2 (List.mem_of_getElem? (i := 2) rfl)) (by decide +kernel)
theorem k2_3 : (Cond.code ({ cls := "java/lang/Math", name := "abs", desc := "(J)J" } : MethodName) prog_14_method_61_code (2 : Nat) (Option.some ClassFile.FieldType.long)) ∈ gW := gW_in (in2 (List.mem_of_getElem? (i := 3) rfl)) (by decide +kernel)
theorem k2_4 : (Cond.methodLink "BookChecks$Book" (50 : Nat) ({ cls := "java/lang/Math", name := "max", desc := "(II)I" } : MethodName)) ∈ gW := gW_in (in2 (List.mem_of_getElem? (i := 4) rfl)) (by decide +kernel)
theorem k2_5 : (Cond.static ({ cls := "java/lang/Math", name := "max", desc := "(II)I" } : MethodName)) ∈ gW := gW_in (in2 (List.mem_of_getElem? (i := 5) rfl)) (by decide +kernel)
theorem k2_6 : (Cond.code ({ cls := "java/lang/Math", name := "max", desc := "(II)I" } : MethodName) prog_14_method_65_code (2 : Nat) (Option.some ClassFile.FieldType.int)) ∈ gW := gW_in (in2 (List.mem_of_getElem? (i := 6) rfl)) (by decide +kernel)
theorem k2_7 : (Cond.methodLink "BookChecksLaw" (43 : Nat) ({ cls := "BookChecks", name := "pair", desc := "(I)I" } : MethodName)) ∈ gW := gW_in (in2 (List.mem_of_getElem? (i := 7) rfl)) (by decide +kernel)
theorem k2_8 : (Cond.instanceMethod ({ cls := "BookChecks", name := "pair", desc := "(I)I" } : MethodName)) ∈ gW := gW_in (in2 (List.mem_of_getElem? (i := 8) rfl)) (by decide +kernel)
theorem k2_9 : (Cond.selects "BookChecks" ({ cls := "BookChecks", name := "pair", desc := "(I)I" } : MethodName) ({ cls := "BookChecks", name := "pair", desc := "(I)I" } : MethodName)) ∈ gW := gW_in (in2 (List.mem_of_getElem? (i := 9) rfl)) (by decide +kernel)
theorem k2_10 : (Cond.code ({ cls := "BookChecks", name := "pair", desc := "(I)I" } : MethodName) prog_1_method_5_code (2 : Nat) (Option.some ClassFile.FieldType.int)) ∈ gW := gW_in (in2 (List.mem_of_getElem? (i := 10) rfl)) (by decide +kernel)
theorem k2_11 : (Cond.methodLink "BookChecks" (76 : Nat) ({ cls := "BookChecks$Joins", name := "saleOf", desc := "(I)I" } : MethodName)) ∈ gW := gW_in (in2 (List.mem_of_getElem? (i := 11) rfl)) (by decide +kernel)
theorem k2_12 : (Cond.instanceMethod ({ cls := "BookChecks$Joins", name := "saleOf", desc := "(I)I" } : MethodName)) ∈ gW := gW_in (in2 (List.mem_of_getElem? (i := 12) rfl)) (by decide +kernel)
theorem k2_13 : (Cond.selects "BookChecks$Joins" ({ cls := "BookChecks$Joins", name := "saleOf", desc := "(I)I" } : MethodName) ({ cls := "BookChecks$Joins", name := "saleOf", desc := "(I)I" } : MethodName)) ∈ gW := gW_in (in2 (List.mem_of_getElem? (i := 13) rfl)) (by decide +kernel)
theorem k2_14 : (Cond.code ({ cls := "BookChecks$Joins", name := "saleOf", desc := "(I)I" } : MethodName) prog_4_method_5_code (2 : Nat) (Option.some ClassFile.FieldType.int)) ∈ gW := gW_in (in2 (List.mem_of_getElem? (i := 14) rfl)) (by decide +kernel)
theorem k2_15 : (Cond.methodLink "BookChecksLaw" (48 : Nat) ({ cls := "BookChecks", name := "points", desc := "(I)I" } : MethodName)) ∈ gW := gW_in (in2 (List.mem_of_getElem? (i := 15) rfl)) (by decide +kernel)
theorem k2_16 : (Cond.instanceMethod ({ cls := "BookChecks", name := "points", desc := "(I)I" } : MethodName)) ∈ gW := gW_in (in2 (List.mem_of_getElem? (i := 16) rfl)) (by decide +kernel)
theorem k2_17 : (Cond.selects "BookChecks" ({ cls := "BookChecks", name := "points", desc := "(I)I" } : MethodName) ({ cls := "BookChecks", name := "points", desc := "(I)I" } : MethodName)) ∈ gW := gW_in (in2 (List.mem_of_getElem? (i := 17) rfl)) (by decide +kernel)
theorem k2_18 : (Cond.code ({ cls := "BookChecks", name := "points", desc := "(I)I" } : MethodName) prog_1_method_6_code (3 : Nat) (Option.some ClassFile.FieldType.int)) ∈ gW := gW_in (in2 (List.mem_of_getElem? (i := 18) rfl)) (by decide +kernel)
theorem k2_19 : (Cond.methodLink "BookChecks" (80 : Nat) ({ cls := "BookChecks$Book", name := "fitWith", desc := "(ILBookChecks$Book;I)I" } : MethodName)) ∈ gW := gW_in (in2 (List.mem_of_getElem? (i := 19) rfl)) (by decide +kernel)
theorem k2_20 : (Cond.methodLink "BookChecksLaw" (52 : Nat) ({ cls := "BookChecks", name := "differs", desc := "(I)J" } : MethodName)) ∈ gW := gW_in (in2 (List.mem_of_getElem? (i := 20) rfl)) (by decide +kernel)
theorem k2_21 : (Cond.instanceMethod ({ cls := "BookChecks", name := "differs", desc := "(I)J" } : MethodName)) ∈ gW := gW_in (in2 (List.mem_of_getElem? (i := 21) rfl)) (by decide +kernel)
theorem k2_22 : (Cond.selects "BookChecks" ({ cls := "BookChecks", name := "differs", desc := "(I)J" } : MethodName) ({ cls := "BookChecks", name := "differs", desc := "(I)J" } : MethodName)) ∈ gW := gW_in (in2 (List.mem_of_getElem? (i := 22) rfl)) (by decide +kernel)
theorem k2_23 : (Cond.code ({ cls := "BookChecks", name := "differs", desc := "(I)J" } : MethodName) prog_1_method_7_code (3 : Nat) (Option.some ClassFile.FieldType.long)) ∈ gW := gW_in (in2 (List.mem_of_getElem? (i := 23) rfl)) (by decide +kernel)
theorem k2_24 : (Cond.methodLink "BookChecks" (84 : Nat) ({ cls := "BookChecks$Book", name := "gramsOf", desc := "(I)J" } : MethodName)) ∈ gW := gW_in (in2 (List.mem_of_getElem? (i := 24) rfl)) (by decide +kernel)
theorem k2_25 : (Cond.instanceMethod ({ cls := "BookChecks$Book", name := "gramsOf", desc := "(I)J" } : MethodName)) ∈ gW := gW_in (in2 (List.mem_of_getElem? (i := 25) rfl)) (by decide +kernel)
theorem k2_26 : (Cond.selects "BookChecks$Book" ({ cls := "BookChecks$Book", name := "gramsOf", desc := "(I)J" } : MethodName) ({ cls := "BookChecks$Book", name := "gramsOf", desc := "(I)J" } : MethodName)) ∈ gW := gW_in (in2 (List.mem_of_getElem? (i := 26) rfl)) (by decide +kernel)
theorem k2_27 : (Cond.code ({ cls := "BookChecks$Book", name := "gramsOf", desc := "(I)J" } : MethodName) prog_3_method_4_code (2 : Nat) (Option.some ClassFile.FieldType.long)) ∈ gW := gW_in (in2 (List.mem_of_getElem? (i := 27) rfl)) (by decide +kernel)
theorem k2_28 : (Cond.methodLink "BookChecksLaw" (56 : Nat) ({ cls := "BookChecks", name := "waits", desc := "(II)I" } : MethodName)) ∈ gW := gW_in (in2 (List.mem_of_getElem? (i := 28) rfl)) (by decide +kernel)
theorem k2_29 : (Cond.instanceMethod ({ cls := "BookChecks", name := "waits", desc := "(II)I" } : MethodName)) ∈ gW := gW_in (in2 (List.mem_of_getElem? (i := 29) rfl)) (by decide +kernel)
theorem k2_30 : (Cond.selects "BookChecks" ({ cls := "BookChecks", name := "waits", desc := "(II)I" } : MethodName) ({ cls := "BookChecks", name := "waits", desc := "(II)I" } : MethodName)) ∈ gW := gW_in (in2 (List.mem_of_getElem? (i := 30) rfl)) (by decide +kernel)
theorem k2_31 : (Cond.code ({ cls := "BookChecks", name := "waits", desc := "(II)I" } : MethodName) prog_1_method_8_code (3 : Nat) (Option.some ClassFile.FieldType.int)) ∈ gW := gW_in (in2 (List.mem_of_getElem? (i := 31) rfl)) (by decide +kernel)
theorem k2_32 : (Cond.methodLink "BookChecks" (88 : Nat) ({ cls := "BookChecks$Joins", name := "waiting", desc := "(LBookChecks$Book;II)I" } : MethodName)) ∈ gW := gW_in (in2 (List.mem_of_getElem? (i := 32) rfl)) (by decide +kernel)
theorem k2_33 : (Cond.instanceMethod ({ cls := "BookChecks$Joins", name := "waiting", desc := "(LBookChecks$Book;II)I" } : MethodName)) ∈ gW := gW_in (in2 (List.mem_of_getElem? (i := 33) rfl)) (by decide +kernel)
theorem k2_34 : (Cond.selects "BookChecks$Joins" ({ cls := "BookChecks$Joins", name := "waiting", desc := "(LBookChecks$Book;II)I" } : MethodName) ({ cls := "BookChecks$Joins", name := "waiting", desc := "(LBookChecks$Book;II)I" } : MethodName)) ∈ gW := gW_in (in2 (List.mem_of_getElem? (i := 34) rfl)) (by decide +kernel)
theorem k2_35 : (Cond.code ({ cls := "BookChecks$Joins", name := "waiting", desc := "(LBookChecks$Book;II)I" } : MethodName) prog_4_method_6_code (8 : Nat) (Option.some ClassFile.FieldType.int)) ∈ gW := gW_in (in2 (List.mem_of_getElem? (i := 35) rfl)) (by decide +kernel)
theorem k2_36 : (Cond.constantLong "BookChecks$Joins" (38 : Nat) (5 : Int64)) ∈ gW := gW_in (in2 (List.mem_of_getElem? (i := 36) rfl)) (by decide +kernel)
theorem k2_37 : (Cond.methodLink "BookChecksLaw" (68 : Nat) ({ cls := "BookChecks", name := "balance", desc := "(I)J" } : MethodName)) ∈ gW := gW_in (in2 (List.mem_of_getElem? (i := 37) rfl)) (by decide +kernel)
theorem k2_38 : (Cond.instanceMethod ({ cls := "BookChecks", name := "balance", desc := "(I)J" } : MethodName)) ∈ gW := gW_in (in2 (List.mem_of_getElem? (i := 38) rfl)) (by decide +kernel)
theorem k2_39 : (Cond.selects "BookChecks" ({ cls := "BookChecks", name := "balance", desc := "(I)J" } : MethodName) ({ cls := "BookChecks", name := "balance", desc := "(I)J" } : MethodName)) ∈ gW := gW_in (in2 (List.mem_of_getElem? (i := 39) rfl)) (by decide +kernel)
theorem k2_40 : (Cond.code ({ cls := "BookChecks", name := "balance", desc := "(I)J" } : MethodName) prog_1_method_10_code (2 : Nat) (Option.some ClassFile.FieldType.long)) ∈ gW := gW_in (in2 (List.mem_of_getElem? (i := 40) rfl)) (by decide +kernel)
theorem k2_41 : (Cond.methodLink "BookChecks" (103 : Nat) ({ cls := "BookChecks$Book", name := "gramsOfKind", desc := "(I)J" } : MethodName)) ∈ gW := gW_in (in2 (List.mem_of_getElem? (i := 41) rfl)) (by decide +kernel)
theorem k2_42 : (Cond.instanceMethod ({ cls := "BookChecks$Book", name := "gramsOfKind", desc := "(I)J" } : MethodName)) ∈ gW := gW_in (in2 (List.mem_of_getElem? (i := 42) rfl)) (by decide +kernel)
theorem k2_43 : (Cond.selects "BookChecks$Book" ({ cls := "BookChecks$Book", name := "gramsOfKind", desc := "(I)J" } : MethodName) ({ cls := "BookChecks$Book", name := "gramsOfKind", desc := "(I)J" } : MethodName)) ∈ gW := gW_in (in2 (List.mem_of_getElem? (i := 43) rfl)) (by decide +kernel)
theorem k2_44 : (Cond.code ({ cls := "BookChecks$Book", name := "gramsOfKind", desc := "(I)J" } : MethodName) prog_3_method_5_code (5 : Nat) (Option.some ClassFile.FieldType.long)) ∈ gW := gW_in (in2 (List.mem_of_getElem? (i := 44) rfl)) (by decide +kernel)
theorem k2_45 : (Cond.methodLink "BookChecksLaw" (72 : Nat) ({ cls := "BookChecks", name := "plant", desc := "(JI)I" } : MethodName)) ∈ gW := gW_in (in2 (List.mem_of_getElem? (i := 45) rfl)) (by decide +kernel)
theorem k2_46 : (Cond.instanceMethod ({ cls := "BookChecks", name := "plant", desc := "(JI)I" } : MethodName)) ∈ gW := gW_in (in2 (List.mem_of_getElem? (i := 46) rfl)) (by decide +kernel)
theorem k2_47 : (Cond.selects "BookChecks" ({ cls := "BookChecks", name := "plant", desc := "(JI)I" } : MethodName) ({ cls := "BookChecks", name := "plant", desc := "(JI)I" } : MethodName)) ∈ gW := gW_in (in2 (List.mem_of_getElem? (i := 47) rfl)) (by decide +kernel)
theorem k2_48 : (Cond.code ({ cls := "BookChecks", name := "plant", desc := "(JI)I" } : MethodName) prog_1_method_11_code (4 : Nat) (Option.some ClassFile.FieldType.int)) ∈ gW := gW_in (in2 (List.mem_of_getElem? (i := 48) rfl)) (by decide +kernel)
theorem k2_49 : (Cond.methodLink "BookChecks" (106 : Nat) ({ cls := "BookChecks$Plants", name := "add", desc := "(JI)I" } : MethodName)) ∈ gW := gW_in (in2 (List.mem_of_getElem? (i := 49) rfl)) (by decide +kernel)
theorem k2_50 : (Cond.instanceMethod ({ cls := "BookChecks$Plants", name := "add", desc := "(JI)I" } : MethodName)) ∈ gW := gW_in (in2 (List.mem_of_getElem? (i := 50) rfl)) (by decide +kernel)
theorem k2_51 : (Cond.selects "BookChecks$Plants" ({ cls := "BookChecks$Plants", name := "add", desc := "(JI)I" } : MethodName) ({ cls := "BookChecks$Plants", name := "add", desc := "(JI)I" } : MethodName)) ∈ gW := gW_in (in2 (List.mem_of_getElem? (i := 51) rfl)) (by decide +kernel)
theorem k2_52 : (Cond.code ({ cls := "BookChecks$Plants", name := "add", desc := "(JI)I" } : MethodName) prog_5_method_3_code (5 : Nat) (Option.some ClassFile.FieldType.int)) ∈ gW := gW_in (in2 (List.mem_of_getElem? (i := 52) rfl)) (by decide +kernel)
theorem k2_53 : (Cond.constantLong "BookChecks$Plants" (32 : Nat) (1000000000 : Int64)) ∈ gW := gW_in (in2 (List.mem_of_getElem? (i := 53) rfl)) (by decide +kernel)
theorem k2_55 : (Cond.methodLink "BookChecksLaw" (77 : Nat) ({ cls := "BookChecks", name := "out", desc := "(IIJ)I" } : MethodName)) ∈ gW := gW_in (in2 (List.mem_of_getElem? (i := 55) rfl)) (by decide +kernel)
theorem k2_56 : (Cond.instanceMethod ({ cls := "BookChecks", name := "out", desc := "(IIJ)I" } : MethodName)) ∈ gW := gW_in (in2 (List.mem_of_getElem? (i := 56) rfl)) (by decide +kernel)
theorem k2_57 : (Cond.selects "BookChecks" ({ cls := "BookChecks", name := "out", desc := "(IIJ)I" } : MethodName) ({ cls := "BookChecks", name := "out", desc := "(IIJ)I" } : MethodName)) ∈ gW := gW_in (in2 (List.mem_of_getElem? (i := 57) rfl)) (by decide +kernel)
theorem k2_58 : (Cond.code ({ cls := "BookChecks", name := "out", desc := "(IIJ)I" } : MethodName) prog_1_method_12_code (5 : Nat) (Option.some ClassFile.FieldType.int)) ∈ gW := gW_in (in2 (List.mem_of_getElem? (i := 58) rfl)) (by decide +kernel)
theorem k2_59 : (Cond.methodLink "BookChecks" (109 : Nat) ({ cls := "BookChecks$Plants", name := "addOut", desc := "(IIJ)I" } : MethodName)) ∈ gW := gW_in (in2 (List.mem_of_getElem? (i := 59) rfl)) (by decide +kernel)
theorem k2_60 : (Cond.instanceMethod ({ cls := "BookChecks$Plants", name := "addOut", desc := "(IIJ)I" } : MethodName)) ∈ gW := gW_in (in2 (List.mem_of_getElem? (i := 60) rfl)) (by decide +kernel)
theorem k2_61 : (Cond.selects "BookChecks$Plants" ({ cls := "BookChecks$Plants", name := "addOut", desc := "(IIJ)I" } : MethodName) ({ cls := "BookChecks$Plants", name := "addOut", desc := "(IIJ)I" } : MethodName)) ∈ gW := gW_in (in2 (List.mem_of_getElem? (i := 61) rfl)) (by decide +kernel)
theorem k2_62 : (Cond.code ({ cls := "BookChecks$Plants", name := "addOut", desc := "(IIJ)I" } : MethodName) prog_5_method_4_code (6 : Nat) (Option.some ClassFile.FieldType.int)) ∈ gW := gW_in (in2 (List.mem_of_getElem? (i := 62) rfl)) (by decide +kernel)
theorem k2_63 : (Cond.methodLink "BookChecks$Plants" (38 : Nat) ({ cls := "BookChecks$Plants", name := "has", desc := "(I)Z" } : MethodName)) ∈ gW := gW_in (in2 (List.mem_of_getElem? (i := 63) rfl)) (by decide +kernel)
theorem k2_64 : (Cond.instanceMethod ({ cls := "BookChecks$Plants", name := "has", desc := "(I)Z" } : MethodName)) ∈ gW := gW_in (in2 (List.mem_of_getElem? (i := 64) rfl)) (by decide +kernel)
theorem k2_65 : (Cond.selects "BookChecks$Plants" ({ cls := "BookChecks$Plants", name := "has", desc := "(I)Z" } : MethodName) ({ cls := "BookChecks$Plants", name := "has", desc := "(I)Z" } : MethodName)) ∈ gW := gW_in (in2 (List.mem_of_getElem? (i := 65) rfl)) (by decide +kernel)
theorem k2_66 : (Cond.code ({ cls := "BookChecks$Plants", name := "has", desc := "(I)Z" } : MethodName) prog_5_method_2_code (2 : Nat) (Option.some ClassFile.FieldType.boolean)) ∈ gW := gW_in (in2 (List.mem_of_getElem? (i := 66) rfl)) (by decide +kernel)
theorem k2_68 : (Cond.methodLink "BookChecksLaw" (82 : Nat) ({ cls := "BookChecks", name := "lacks", desc := "(I)J" } : MethodName)) ∈ gW := gW_in (in2 (List.mem_of_getElem? (i := 68) rfl)) (by decide +kernel)
theorem k2_69 : (Cond.instanceMethod ({ cls := "BookChecks", name := "lacks", desc := "(I)J" } : MethodName)) ∈ gW := gW_in (in2 (List.mem_of_getElem? (i := 69) rfl)) (by decide +kernel)
theorem k2_70 : (Cond.selects "BookChecks" ({ cls := "BookChecks", name := "lacks", desc := "(I)J" } : MethodName) ({ cls := "BookChecks", name := "lacks", desc := "(I)J" } : MethodName)) ∈ gW := gW_in (in2 (List.mem_of_getElem? (i := 70) rfl)) (by decide +kernel)
theorem k2_71 : (Cond.code ({ cls := "BookChecks", name := "lacks", desc := "(I)J" } : MethodName) prog_1_method_13_code (2 : Nat) (Option.some ClassFile.FieldType.long)) ∈ gW := gW_in (in2 (List.mem_of_getElem? (i := 71) rfl)) (by decide +kernel)
theorem k2_72 : (Cond.methodLink "BookChecks" (113 : Nat) ({ cls := "BookChecks$Plants", name := "has", desc := "(I)Z" } : MethodName)) ∈ gW := gW_in (in2 (List.mem_of_getElem? (i := 72) rfl)) (by decide +kernel)
theorem k2_73 : (Cond.methodLink "BookChecks" (114 : Nat) ({ cls := "BookChecks$Plants", name := "lackOf", desc := "(I)J" } : MethodName)) ∈ gW := gW_in (in2 (List.mem_of_getElem? (i := 73) rfl)) (by decide +kernel)
theorem k2_74 : (Cond.instanceMethod ({ cls := "BookChecks$Plants", name := "lackOf", desc := "(I)J" } : MethodName)) ∈ gW := gW_in (in2 (List.mem_of_getElem? (i := 74) rfl)) (by decide +kernel)
theorem k2_75 : (Cond.selects "BookChecks$Plants" ({ cls := "BookChecks$Plants", name := "lackOf", desc := "(I)J" } : MethodName) ({ cls := "BookChecks$Plants", name := "lackOf", desc := "(I)J" } : MethodName)) ∈ gW := gW_in (in2 (List.mem_of_getElem? (i := 75) rfl)) (by decide +kernel)
theorem k2_76 : (Cond.code ({ cls := "BookChecks$Plants", name := "lackOf", desc := "(I)J" } : MethodName) prog_5_method_5_code (2 : Nat) (Option.some ClassFile.FieldType.long)) ∈ gW := gW_in (in2 (List.mem_of_getElem? (i := 76) rfl)) (by decide +kernel)
theorem k2_77 : (Cond.methodLink "BookChecks$Plants" (45 : Nat) ({ cls := "BookChecks$Plants", name := "ownKind", desc := "(I)I" } : MethodName)) ∈ gW := gW_in (in2 (List.mem_of_getElem? (i := 77) rfl)) (by decide +kernel)
theorem k2_79 : (Cond.instanceMethod ({ cls := "BookChecks$Plants", name := "ownKind", desc := "(I)I" } : MethodName)) ∈ gW := gW_in (in2 (List.mem_of_getElem? (i := 79) rfl)) (by decide +kernel)
theorem k2_80 : (Cond.code ({ cls := "BookChecks$Plants", name := "ownKind", desc := "(I)I" } : MethodName) prog_5_method_7_code (4 : Nat) (Option.some ClassFile.FieldType.int)) ∈ gW := gW_in (in2 (List.mem_of_getElem? (i := 80) rfl)) (by decide +kernel)
theorem k2_81 : (Cond.methodLink "BookChecks$Plants" (49 : Nat) ({ cls := "BookChecks$Plants", name := "gramsOfSet", desc := "(II)J" } : MethodName)) ∈ gW := gW_in (in2 (List.mem_of_getElem? (i := 81) rfl)) (by decide +kernel)
theorem k2_83 : (Cond.instanceMethod ({ cls := "BookChecks$Plants", name := "gramsOfSet", desc := "(II)J" } : MethodName)) ∈ gW := gW_in (in2 (List.mem_of_getElem? (i := 83) rfl)) (by decide +kernel)
theorem k2_84 : (Cond.code ({ cls := "BookChecks$Plants", name := "gramsOfSet", desc := "(II)J" } : MethodName) prog_5_method_8_code (6 : Nat) (Option.some ClassFile.FieldType.long)) ∈ gW := gW_in (in2 (List.mem_of_getElem? (i := 84) rfl)) (by decide +kernel)
theorem k2_85 : (Cond.methodLink "BookChecks$Plants" (53 : Nat) ({ cls := "java/lang/Math", name := "max", desc := "(JJ)J" } : MethodName)) ∈ gW := gW_in (in2 (List.mem_of_getElem? (i := 85) rfl)) (by decide +kernel)
theorem k2_86 : (Cond.constantLong "BookChecks" (117 : Nat) (-1 : Int64)) ∈ gW := gW_in (in2 (List.mem_of_getElem? (i := 86) rfl)) (by decide +kernel)
theorem k2_87 : (Cond.methodLink "BookChecksLaw" (86 : Nat) ({ cls := "BookChecks", name := "nowhere", desc := "(II)I" } : MethodName)) ∈ gW := gW_in (in2 (List.mem_of_getElem? (i := 87) rfl)) (by decide +kernel)
theorem k2_88 : (Cond.instanceMethod ({ cls := "BookChecks", name := "nowhere", desc := "(II)I" } : MethodName)) ∈ gW := gW_in (in2 (List.mem_of_getElem? (i := 88) rfl)) (by decide +kernel)
theorem k2_89 : (Cond.selects "BookChecks" ({ cls := "BookChecks", name := "nowhere", desc := "(II)I" } : MethodName) ({ cls := "BookChecks", name := "nowhere", desc := "(II)I" } : MethodName)) ∈ gW := gW_in (in2 (List.mem_of_getElem? (i := 89) rfl)) (by decide +kernel)
theorem k2_90 : (Cond.code ({ cls := "BookChecks", name := "nowhere", desc := "(II)I" } : MethodName) prog_1_method_14_code (3 : Nat) (Option.some ClassFile.FieldType.int)) ∈ gW := gW_in (in2 (List.mem_of_getElem? (i := 90) rfl)) (by decide +kernel)
theorem k2_91 : (Cond.methodLink "BookChecks" (119 : Nat) ({ cls := "BookChecks$Plants", name := "leastSet", desc := "(I)I" } : MethodName)) ∈ gW := gW_in (in2 (List.mem_of_getElem? (i := 91) rfl)) (by decide +kernel)
theorem k2_92 : (Cond.instanceMethod ({ cls := "BookChecks$Plants", name := "leastSet", desc := "(I)I" } : MethodName)) ∈ gW := gW_in (in2 (List.mem_of_getElem? (i := 92) rfl)) (by decide +kernel)
theorem k2_93 : (Cond.selects "BookChecks$Plants" ({ cls := "BookChecks$Plants", name := "leastSet", desc := "(I)I" } : MethodName) ({ cls := "BookChecks$Plants", name := "leastSet", desc := "(I)I" } : MethodName)) ∈ gW := gW_in (in2 (List.mem_of_getElem? (i := 93) rfl)) (by decide +kernel)
theorem k2_94 : (Cond.code ({ cls := "BookChecks$Plants", name := "leastSet", desc := "(I)I" } : MethodName) prog_5_method_6_code (8 : Nat) (Option.some ClassFile.FieldType.int)) ∈ gW := gW_in (in2 (List.mem_of_getElem? (i := 94) rfl)) (by decide +kernel)
theorem k2_95 : (Cond.methodLink "BookChecks$Plants" (59 : Nat) ({ cls := "BookChecks$Plants", name := "lackOf", desc := "(I)J" } : MethodName)) ∈ gW := gW_in (in2 (List.mem_of_getElem? (i := 95) rfl)) (by decide +kernel)
theorem k2_96 : (Cond.methodLink "BookChecks$Plants" (63 : Nat) ({ cls := "BookChecks$Plants", name := "isBefore", desc := "(II)Z" } : MethodName)) ∈ gW := gW_in (in2 (List.mem_of_getElem? (i := 96) rfl)) (by decide +kernel)
theorem k2_97 : (Cond.static ({ cls := "BookChecks$Plants", name := "isBefore", desc := "(II)Z" } : MethodName)) ∈ gW := gW_in (in2 (List.mem_of_getElem? (i := 97) rfl)) (by decide +kernel)
theorem k2_98 : (Cond.code ({ cls := "BookChecks$Plants", name := "isBefore", desc := "(II)Z" } : MethodName) prog_5_method_9_code (5 : Nat) (Option.some ClassFile.FieldType.boolean)) ∈ gW := gW_in (in2 (List.mem_of_getElem? (i := 98) rfl)) (by decide +kernel)
theorem k2_99 : (Cond.methodLink "BookChecks$Plants" (67 : Nat) ({ cls := "java/lang/Integer", name := "bitCount", desc := "(I)I" } : MethodName)) ∈ gW := gW_in (in2 (List.mem_of_getElem? (i := 99) rfl)) (by decide +kernel)
theorem k2_100 : (Cond.static ({ cls := "java/lang/Integer", name := "bitCount", desc := "(I)I" } : MethodName)) ∈ gW := gW_in (in2 (List.mem_of_getElem? (i := 100) rfl)) (by decide +kernel)
theorem k2_101 : (Cond.code ({ cls := "java/lang/Integer", name := "bitCount", desc := "(I)I" } : MethodName) prog_13_method_49_code (1 : Nat) (Option.some ClassFile.FieldType.int)) ∈ gW := gW_in (in2 (List.mem_of_getElem? (i := 101) rfl)) (by decide +kernel)
theorem k2_102 : (Cond.constant "java/lang/Integer" (265 : Nat) (1431655765 : Int32)) ∈ gW := gW_in (in2 (List.mem_of_getElem? (i := 102) rfl)) (by decide +kernel)
theorem k2_103 : (Cond.constant "java/lang/Integer" (266 : Nat) (858993459 : Int32)) ∈ gW := gW_in (in2 (List.mem_of_getElem? (i := 103) rfl)) (by decide +kernel)
theorem k2_104 : (Cond.constant "java/lang/Integer" (267 : Nat) (252645135 : Int32)) ∈ gW := gW_in (in2 (List.mem_of_getElem? (i := 104) rfl)) (by decide +kernel)
theorem k2_105 : (Cond.methodLink "BookChecks" (122 : Nat) ({ cls := "BookChecks", name := "bitAt", desc := "(II)I" } : MethodName)) ∈ gW := gW_in (in2 (List.mem_of_getElem? (i := 105) rfl)) (by decide +kernel)
theorem k2_106 : (Cond.static ({ cls := "BookChecks", name := "bitAt", desc := "(II)I" } : MethodName)) ∈ gW := gW_in (in2 (List.mem_of_getElem? (i := 106) rfl)) (by decide +kernel)
theorem k2_107 : (Cond.code ({ cls := "BookChecks", name := "bitAt", desc := "(II)I" } : MethodName) prog_1_method_28_code (4 : Nat) (Option.some ClassFile.FieldType.int)) ∈ gW := gW_in (in2 (List.mem_of_getElem? (i := 107) rfl)) (by decide +kernel)
theorem k2_108 : (Cond.methodLink "BookChecksLaw" (90 : Nat) ({ cls := "BookChecks", name := "risk", desc := "(III)Z" } : MethodName)) ∈ gW := gW_in (in2 (List.mem_of_getElem? (i := 108) rfl)) (by decide +kernel)
theorem k2_109 : (Cond.instanceMethod ({ cls := "BookChecks", name := "risk", desc := "(III)Z" } : MethodName)) ∈ gW := gW_in (in2 (List.mem_of_getElem? (i := 109) rfl)) (by decide +kernel)
theorem k2_110 : (Cond.selects "BookChecks" ({ cls := "BookChecks", name := "risk", desc := "(III)Z" } : MethodName) ({ cls := "BookChecks", name := "risk", desc := "(III)Z" } : MethodName)) ∈ gW := gW_in (in2 (List.mem_of_getElem? (i := 110) rfl)) (by decide +kernel)
theorem k2_111 : (Cond.code ({ cls := "BookChecks", name := "risk", desc := "(III)Z" } : MethodName) prog_1_method_15_code (4 : Nat) (Option.some ClassFile.FieldType.boolean)) ∈ gW := gW_in (in2 (List.mem_of_getElem? (i := 111) rfl)) (by decide +kernel)
theorem k2_112 : (Cond.methodLink "BookChecks" (126 : Nat) ({ cls := "BookChecks$Risks", name := "set", desc := "(III)Z" } : MethodName)) ∈ gW := gW_in (in2 (List.mem_of_getElem? (i := 112) rfl)) (by decide +kernel)
theorem k2_113 : (Cond.instanceMethod ({ cls := "BookChecks$Risks", name := "set", desc := "(III)Z" } : MethodName)) ∈ gW := gW_in (in2 (List.mem_of_getElem? (i := 113) rfl)) (by decide +kernel)
theorem k2_114 : (Cond.selects "BookChecks$Risks" ({ cls := "BookChecks$Risks", name := "set", desc := "(III)Z" } : MethodName) ({ cls := "BookChecks$Risks", name := "set", desc := "(III)Z" } : MethodName)) ∈ gW := gW_in (in2 (List.mem_of_getElem? (i := 114) rfl)) (by decide +kernel)
theorem k2_115 : (Cond.code ({ cls := "BookChecks$Risks", name := "set", desc := "(III)Z" } : MethodName) prog_6_method_2_code (4 : Nat) (Option.some ClassFile.FieldType.boolean)) ∈ gW := gW_in (in2 (List.mem_of_getElem? (i := 115) rfl)) (by decide +kernel)
theorem k2_117 : (Cond.methodLink "BookChecksLaw" (95 : Nat) ({ cls := "BookChecks", name := "draw", desc := "(I)I" } : MethodName)) ∈ gW := gW_in (in2 (List.mem_of_getElem? (i := 117) rfl)) (by decide +kernel)
theorem k2_118 : (Cond.instanceMethod ({ cls := "BookChecks", name := "draw", desc := "(I)I" } : MethodName)) ∈ gW := gW_in (in2 (List.mem_of_getElem? (i := 118) rfl)) (by decide +kernel)
theorem k2_119 : (Cond.selects "BookChecks" ({ cls := "BookChecks", name := "draw", desc := "(I)I" } : MethodName) ({ cls := "BookChecks", name := "draw", desc := "(I)I" } : MethodName)) ∈ gW := gW_in (in2 (List.mem_of_getElem? (i := 119) rfl)) (by decide +kernel)
theorem k2_120 : (Cond.code ({ cls := "BookChecks", name := "draw", desc := "(I)I" } : MethodName) prog_1_method_16_code (2 : Nat) (Option.some ClassFile.FieldType.int)) ∈ gW := gW_in (in2 (List.mem_of_getElem? (i := 120) rfl)) (by decide +kernel)
theorem k2_121 : (Cond.methodLink "BookChecks" (134 : Nat) ({ cls := "BookChecks$Risks", name := "take", desc := "(LBookChecks$Book;JILBookChecks$Row;)V" } : MethodName)) ∈ gW := gW_in (in2 (List.mem_of_getElem? (i := 121) rfl)) (by decide +kernel)
theorem k2_122 : (Cond.instanceMethod ({ cls := "BookChecks$Risks", name := "take", desc := "(LBookChecks$Book;JILBookChecks$Row;)V" } : MethodName)) ∈ gW := gW_in (in2 (List.mem_of_getElem? (i := 122) rfl)) (by decide +kernel)
theorem k2_123 : (Cond.selects "BookChecks$Risks" ({ cls := "BookChecks$Risks", name := "take", desc := "(LBookChecks$Book;JILBookChecks$Row;)V" } : MethodName) ({ cls := "BookChecks$Risks", name := "take", desc := "(LBookChecks$Book;JILBookChecks$Row;)V" } : MethodName)) ∈ gW := gW_in (in2 (List.mem_of_getElem? (i := 123) rfl)) (by decide +kernel)
theorem k2_124 : (Cond.code ({ cls := "BookChecks$Risks", name := "take", desc := "(LBookChecks$Book;JILBookChecks$Row;)V" } : MethodName) prog_6_method_3_code (11 : Nat) (Option.none : Option ClassFile.FieldType)) ∈ gW := gW_in (in2 (List.mem_of_getElem? (i := 124) rfl)) (by decide +kernel)
theorem k2_125 : (Cond.methodLink "BookChecks$Risks" (22 : Nat) ({ cls := "BookChecks$Row", name := "begin", desc := "(I)V" } : MethodName)) ∈ gW := gW_in (in2 (List.mem_of_getElem? (i := 125) rfl)) (by decide +kernel)
theorem k2_126 : (Cond.instanceMethod ({ cls := "BookChecks$Row", name := "begin", desc := "(I)V" } : MethodName)) ∈ gW := gW_in (in2 (List.mem_of_getElem? (i := 126) rfl)) (by decide +kernel)
theorem k2_127 : (Cond.selects "BookChecks$Row" ({ cls := "BookChecks$Row", name := "begin", desc := "(I)V" } : MethodName) ({ cls := "BookChecks$Row", name := "begin", desc := "(I)V" } : MethodName)) ∈ gW := gW_in (in2 (List.mem_of_getElem? (i := 127) rfl)) (by decide +kernel)
theorem k2_128 : (Cond.code ({ cls := "BookChecks$Row", name := "begin", desc := "(I)V" } : MethodName) prog_7_method_2_code (2 : Nat) (Option.none : Option ClassFile.FieldType)) ∈ gW := gW_in (in2 (List.mem_of_getElem? (i := 128) rfl)) (by decide +kernel)
theorem k2_129 : (Cond.methodLink "BookChecks$Risks" (28 : Nat) ({ cls := "BookChecks$Risks", name := "weighAll", desc := "(LBookChecks$Book;)I" } : MethodName)) ∈ gW := gW_in (in2 (List.mem_of_getElem? (i := 129) rfl)) (by decide +kernel)
theorem k2_131 : (Cond.instanceMethod ({ cls := "BookChecks$Risks", name := "weighAll", desc := "(LBookChecks$Book;)I" } : MethodName)) ∈ gW := gW_in (in2 (List.mem_of_getElem? (i := 131) rfl)) (by decide +kernel)
theorem k2_132 : (Cond.code ({ cls := "BookChecks$Risks", name := "weighAll", desc := "(LBookChecks$Book;)I" } : MethodName) prog_6_method_4_code (4 : Nat) (Option.some ClassFile.FieldType.int)) ∈ gW := gW_in (in2 (List.mem_of_getElem? (i := 132) rfl)) (by decide +kernel)
theorem k2_133 : (Cond.constantLong "BookChecks$Risks" (32 : Nat) (6364136223846793005 : Int64)) ∈ gW := gW_in (in2 (List.mem_of_getElem? (i := 133) rfl)) (by decide +kernel)
theorem k2_134 : (Cond.constantLong "BookChecks$Risks" (34 : Nat) (1442695040888963407 : Int64)) ∈ gW := gW_in (in2 (List.mem_of_getElem? (i := 134) rfl)) (by decide +kernel)
theorem k2_135 : (Cond.methodLink "BookChecks$Risks" (42 : Nat) ({ cls := "BookChecks$Risks", name := "pageOver", desc := "(II)I" } : MethodName)) ∈ gW := gW_in (in2 (List.mem_of_getElem? (i := 135) rfl)) (by decide +kernel)
theorem k2_137 : (Cond.instanceMethod ({ cls := "BookChecks$Risks", name := "pageOver", desc := "(II)I" } : MethodName)) ∈ gW := gW_in (in2 (List.mem_of_getElem? (i := 137) rfl)) (by decide +kernel)
theorem k2_138 : (Cond.code ({ cls := "BookChecks$Risks", name := "pageOver", desc := "(II)I" } : MethodName) prog_6_method_5_code (5 : Nat) (Option.some ClassFile.FieldType.int)) ∈ gW := gW_in (in2 (List.mem_of_getElem? (i := 138) rfl)) (by decide +kernel)
theorem k2_139 : (Cond.methodLink "BookChecks$Risks" (46 : Nat) ({ cls := "BookChecks$Row", name := "append", desc := "(I)V" } : MethodName)) ∈ gW := gW_in (in2 (List.mem_of_getElem? (i := 139) rfl)) (by decide +kernel)
theorem k2_140 : (Cond.instanceMethod ({ cls := "BookChecks$Row", name := "append", desc := "(I)V" } : MethodName)) ∈ gW := gW_in (in2 (List.mem_of_getElem? (i := 140) rfl)) (by decide +kernel)
theorem k2_141 : (Cond.selects "BookChecks$Row" ({ cls := "BookChecks$Row", name := "append", desc := "(I)V" } : MethodName) ({ cls := "BookChecks$Row", name := "append", desc := "(I)V" } : MethodName)) ∈ gW := gW_in (in2 (List.mem_of_getElem? (i := 141) rfl)) (by decide +kernel)
theorem k2_142 : (Cond.code ({ cls := "BookChecks$Row", name := "append", desc := "(I)V" } : MethodName) prog_7_method_3_code (2 : Nat) (Option.none : Option ClassFile.FieldType)) ∈ gW := gW_in (in2 (List.mem_of_getElem? (i := 142) rfl)) (by decide +kernel)
theorem k2_143 : (Cond.methodLink "BookChecksLaw" (99 : Nat) ({ cls := "BookChecks", name := "drawn", desc := "(I)I" } : MethodName)) ∈ gW := gW_in (in2 (List.mem_of_getElem? (i := 143) rfl)) (by decide +kernel)
theorem k2_144 : (Cond.instanceMethod ({ cls := "BookChecks", name := "drawn", desc := "(I)I" } : MethodName)) ∈ gW := gW_in (in2 (List.mem_of_getElem? (i := 144) rfl)) (by decide +kernel)
theorem k2_145 : (Cond.selects "BookChecks" ({ cls := "BookChecks", name := "drawn", desc := "(I)I" } : MethodName) ({ cls := "BookChecks", name := "drawn", desc := "(I)I" } : MethodName)) ∈ gW := gW_in (in2 (List.mem_of_getElem? (i := 145) rfl)) (by decide +kernel)
theorem k2_146 : (Cond.code ({ cls := "BookChecks", name := "drawn", desc := "(I)I" } : MethodName) prog_1_method_17_code (2 : Nat) (Option.some ClassFile.FieldType.int)) ∈ gW := gW_in (in2 (List.mem_of_getElem? (i := 146) rfl)) (by decide +kernel)
theorem k2_147 : (Cond.methodLink "BookChecks" (139 : Nat) ({ cls := "BookChecks$Row", name := "at", desc := "(I)I" } : MethodName)) ∈ gW := gW_in (in2 (List.mem_of_getElem? (i := 147) rfl)) (by decide +kernel)
theorem k2_148 : (Cond.instanceMethod ({ cls := "BookChecks$Row", name := "at", desc := "(I)I" } : MethodName)) ∈ gW := gW_in (in2 (List.mem_of_getElem? (i := 148) rfl)) (by decide +kernel)
theorem k2_149 : (Cond.selects "BookChecks$Row" ({ cls := "BookChecks$Row", name := "at", desc := "(I)I" } : MethodName) ({ cls := "BookChecks$Row", name := "at", desc := "(I)I" } : MethodName)) ∈ gW := gW_in (in2 (List.mem_of_getElem? (i := 149) rfl)) (by decide +kernel)
theorem k2_150 : (Cond.code ({ cls := "BookChecks$Row", name := "at", desc := "(I)I" } : MethodName) prog_7_method_4_code (2 : Nat) (Option.some ClassFile.FieldType.int)) ∈ gW := gW_in (in2 (List.mem_of_getElem? (i := 150) rfl)) (by decide +kernel)
theorem k2_151 : (Cond.methodLink "BookChecksLaw" (103 : Nat) ({ cls := "BookChecks", name := "same", desc := "(J)Z" } : MethodName)) ∈ gW := gW_in (in2 (List.mem_of_getElem? (i := 151) rfl)) (by decide +kernel)
theorem k2_152 : (Cond.instanceMethod ({ cls := "BookChecks", name := "same", desc := "(J)Z" } : MethodName)) ∈ gW := gW_in (in2 (List.mem_of_getElem? (i := 152) rfl)) (by decide +kernel)
theorem k2_153 : (Cond.selects "BookChecks" ({ cls := "BookChecks", name := "same", desc := "(J)Z" } : MethodName) ({ cls := "BookChecks", name := "same", desc := "(J)Z" } : MethodName)) ∈ gW := gW_in (in2 (List.mem_of_getElem? (i := 153) rfl)) (by decide +kernel)
theorem k2_154 : (Cond.code ({ cls := "BookChecks", name := "same", desc := "(J)Z" } : MethodName) prog_1_method_18_code (3 : Nat) (Option.some ClassFile.FieldType.boolean)) ∈ gW := gW_in (in2 (List.mem_of_getElem? (i := 154) rfl)) (by decide +kernel)
theorem k2_155 : (Cond.methodLink "BookChecks" (145 : Nat) ({ cls := "BookChecks$Row", name := "equalTo", desc := "(LBookChecks$Row;)Z" } : MethodName)) ∈ gW := gW_in (in2 (List.mem_of_getElem? (i := 155) rfl)) (by decide +kernel)
theorem k2_156 : (Cond.instanceMethod ({ cls := "BookChecks$Row", name := "equalTo", desc := "(LBookChecks$Row;)Z" } : MethodName)) ∈ gW := gW_in (in2 (List.mem_of_getElem? (i := 156) rfl)) (by decide +kernel)
theorem k2_157 : (Cond.selects "BookChecks$Row" ({ cls := "BookChecks$Row", name := "equalTo", desc := "(LBookChecks$Row;)Z" } : MethodName) ({ cls := "BookChecks$Row", name := "equalTo", desc := "(LBookChecks$Row;)Z" } : MethodName)) ∈ gW := gW_in (in2 (List.mem_of_getElem? (i := 157) rfl)) (by decide +kernel)
theorem k2_158 : (Cond.code ({ cls := "BookChecks$Row", name := "equalTo", desc := "(LBookChecks$Row;)Z" } : MethodName) prog_7_method_5_code (3 : Nat) (Option.some ClassFile.FieldType.boolean)) ∈ gW := gW_in (in2 (List.mem_of_getElem? (i := 158) rfl)) (by decide +kernel)
theorem k2_159 : (Cond.methodLink "BookChecksLaw" (108 : Nat) ({ cls := "BookChecks", name := "missed", desc := "(III)J" } : MethodName)) ∈ gW := gW_in (in2 (List.mem_of_getElem? (i := 159) rfl)) (by decide +kernel)
theorem k2_160 : (Cond.instanceMethod ({ cls := "BookChecks", name := "missed", desc := "(III)J" } : MethodName)) ∈ gW := gW_in (in2 (List.mem_of_getElem? (i := 160) rfl)) (by decide +kernel)
theorem k2_161 : (Cond.selects "BookChecks" ({ cls := "BookChecks", name := "missed", desc := "(III)J" } : MethodName) ({ cls := "BookChecks", name := "missed", desc := "(III)J" } : MethodName)) ∈ gW := gW_in (in2 (List.mem_of_getElem? (i := 161) rfl)) (by decide +kernel)
theorem k2_162 : (Cond.code ({ cls := "BookChecks", name := "missed", desc := "(III)J" } : MethodName) prog_1_method_19_code (13 : Nat) (Option.some ClassFile.FieldType.long)) ∈ gW := gW_in (in2 (List.mem_of_getElem? (i := 162) rfl)) (by decide +kernel)
theorem k2_163 : (Cond.methodLink "BookChecks" (149 : Nat) ({ cls := "BookChecks", name := "choose", desc := "(II)J" } : MethodName)) ∈ gW := gW_in (in2 (List.mem_of_getElem? (i := 163) rfl)) (by decide +kernel)
theorem k2_164 : (Cond.static ({ cls := "BookChecks", name := "choose", desc := "(II)J" } : MethodName)) ∈ gW := gW_in (in2 (List.mem_of_getElem? (i := 164) rfl)) (by decide +kernel)
theorem k2_165 : (Cond.code ({ cls := "BookChecks", name := "choose", desc := "(II)J" } : MethodName) prog_1_method_29_code (5 : Nat) (Option.some ClassFile.FieldType.long)) ∈ gW := gW_in (in2 (List.mem_of_getElem? (i := 165) rfl)) (by decide +kernel)
theorem k2_166 : (Cond.methodLink "BookChecks" (153 : Nat) ({ cls := "BookChecks", name := "commonDivisor", desc := "(JJ)J" } : MethodName)) ∈ gW := gW_in (in2 (List.mem_of_getElem? (i := 166) rfl)) (by decide +kernel)
theorem k2_167 : (Cond.static ({ cls := "BookChecks", name := "commonDivisor", desc := "(JJ)J" } : MethodName)) ∈ gW := gW_in (in2 (List.mem_of_getElem? (i := 167) rfl)) (by decide +kernel)
theorem k2_168 : (Cond.code ({ cls := "BookChecks", name := "commonDivisor", desc := "(JJ)J" } : MethodName) prog_1_method_30_code (11 : Nat) (Option.some ClassFile.FieldType.long)) ∈ gW := gW_in (in2 (List.mem_of_getElem? (i := 168) rfl)) (by decide +kernel)
theorem k2_169 : (Cond.methodLink "BookChecksLaw" (113 : Nat) ({ cls := "BookChecks", name := "camera", desc := "(II)I" } : MethodName)) ∈ gW := gW_in (in2 (List.mem_of_getElem? (i := 169) rfl)) (by decide +kernel)
theorem k2_170 : (Cond.instanceMethod ({ cls := "BookChecks", name := "camera", desc := "(II)I" } : MethodName)) ∈ gW := gW_in (in2 (List.mem_of_getElem? (i := 170) rfl)) (by decide +kernel)
theorem k2_171 : (Cond.selects "BookChecks" ({ cls := "BookChecks", name := "camera", desc := "(II)I" } : MethodName) ({ cls := "BookChecks", name := "camera", desc := "(II)I" } : MethodName)) ∈ gW := gW_in (in2 (List.mem_of_getElem? (i := 171) rfl)) (by decide +kernel)
theorem k2_172 : (Cond.code ({ cls := "BookChecks", name := "camera", desc := "(II)I" } : MethodName) prog_1_method_20_code (3 : Nat) (Option.some ClassFile.FieldType.int)) ∈ gW := gW_in (in2 (List.mem_of_getElem? (i := 172) rfl)) (by decide +kernel)
theorem k2_173 : (Cond.methodLink "BookChecks" (157 : Nat) ({ cls := "BookChecks$Watch", name := "most", desc := "(LBookChecks$Book;II)I" } : MethodName)) ∈ gW := gW_in (in2 (List.mem_of_getElem? (i := 173) rfl)) (by decide +kernel)
theorem k2_174 : (Cond.instanceMethod ({ cls := "BookChecks$Watch", name := "most", desc := "(LBookChecks$Book;II)I" } : MethodName)) ∈ gW := gW_in (in2 (List.mem_of_getElem? (i := 174) rfl)) (by decide +kernel)
theorem k2_175 : (Cond.selects "BookChecks$Watch" ({ cls := "BookChecks$Watch", name := "most", desc := "(LBookChecks$Book;II)I" } : MethodName) ({ cls := "BookChecks$Watch", name := "most", desc := "(LBookChecks$Book;II)I" } : MethodName)) ∈ gW := gW_in (in2 (List.mem_of_getElem? (i := 175) rfl)) (by decide +kernel)
theorem k2_176 : (Cond.code ({ cls := "BookChecks$Watch", name := "most", desc := "(LBookChecks$Book;II)I" } : MethodName) prog_8_method_2_code (9 : Nat) (Option.some ClassFile.FieldType.int)) ∈ gW := gW_in (in2 (List.mem_of_getElem? (i := 176) rfl)) (by decide +kernel)
theorem k2_177 : (Cond.methodLink "BookChecks$Watch" (15 : Nat) ({ cls := "BookChecks$Watch", name := "sortMinutes", desc := "(LBookChecks$Book;I)I" } : MethodName)) ∈ gW := gW_in (in2 (List.mem_of_getElem? (i := 177) rfl)) (by decide +kernel)
theorem k2_179 : (Cond.instanceMethod ({ cls := "BookChecks$Watch", name := "sortMinutes", desc := "(LBookChecks$Book;I)I" } : MethodName)) ∈ gW := gW_in (in2 (List.mem_of_getElem? (i := 179) rfl)) (by decide +kernel)
theorem k2_180 : (Cond.code ({ cls := "BookChecks$Watch", name := "sortMinutes", desc := "(LBookChecks$Book;I)I" } : MethodName) prog_8_method_3_code (5 : Nat) (Option.some ClassFile.FieldType.int)) ∈ gW := gW_in (in2 (List.mem_of_getElem? (i := 180) rfl)) (by decide +kernel)
theorem k2_181 : (Cond.constantLong "BookChecks$Watch" (29 : Nat) (20 : Int64)) ∈ gW := gW_in (in2 (List.mem_of_getElem? (i := 181) rfl)) (by decide +kernel)
theorem k2_182 : (Cond.constantLong "BookChecks$Watch" (34 : Nat) (100000 : Int64)) ∈ gW := gW_in (in2 (List.mem_of_getElem? (i := 182) rfl)) (by decide +kernel)
theorem k2_183 : (Cond.methodLink "BookChecks$Watch" (36 : Nat) ({ cls := "BookChecks$Watch", name := "insert", desc := "(IJ)V" } : MethodName)) ∈ gW := gW_in (in2 (List.mem_of_getElem? (i := 183) rfl)) (by decide +kernel)
theorem k2_185 : (Cond.instanceMethod ({ cls := "BookChecks$Watch", name := "insert", desc := "(IJ)V" } : MethodName)) ∈ gW := gW_in (in2 (List.mem_of_getElem? (i := 185) rfl)) (by decide +kernel)
theorem k2_186 : (Cond.code ({ cls := "BookChecks$Watch", name := "insert", desc := "(IJ)V" } : MethodName) prog_8_method_4_code (5 : Nat) (Option.none : Option ClassFile.FieldType)) ∈ gW := gW_in (in2 (List.mem_of_getElem? (i := 186) rfl)) (by decide +kernel)
theorem k2_187 : (Cond.methodLink "BookChecksLaw" (117 : Nat) ({ cls := "BookChecks", name := "act", desc := "(III)I" } : MethodName)) ∈ gW := gW_in (in2 (List.mem_of_getElem? (i := 187) rfl)) (by decide +kernel)
theorem k2_188 : (Cond.instanceMethod ({ cls := "BookChecks", name := "act", desc := "(III)I" } : MethodName)) ∈ gW := gW_in (in2 (List.mem_of_getElem? (i := 188) rfl)) (by decide +kernel)
theorem k2_189 : (Cond.selects "BookChecks" ({ cls := "BookChecks", name := "act", desc := "(III)I" } : MethodName) ({ cls := "BookChecks", name := "act", desc := "(III)I" } : MethodName)) ∈ gW := gW_in (in2 (List.mem_of_getElem? (i := 189) rfl)) (by decide +kernel)
theorem k2_190 : (Cond.code ({ cls := "BookChecks", name := "act", desc := "(III)I" } : MethodName) prog_1_method_21_code (4 : Nat) (Option.some ClassFile.FieldType.int)) ∈ gW := gW_in (in2 (List.mem_of_getElem? (i := 190) rfl)) (by decide +kernel)
theorem k2_191 : (Cond.methodLink "BookChecks" (160 : Nat) ({ cls := "BookChecks$Acts", name := "tell", desc := "(III)I" } : MethodName)) ∈ gW := gW_in (in2 (List.mem_of_getElem? (i := 191) rfl)) (by decide +kernel)
theorem k2_192 : (Cond.instanceMethod ({ cls := "BookChecks$Acts", name := "tell", desc := "(III)I" } : MethodName)) ∈ gW := gW_in (in2 (List.mem_of_getElem? (i := 192) rfl)) (by decide +kernel)
theorem k2_193 : (Cond.selects "BookChecks$Acts" ({ cls := "BookChecks$Acts", name := "tell", desc := "(III)I" } : MethodName) ({ cls := "BookChecks$Acts", name := "tell", desc := "(III)I" } : MethodName)) ∈ gW := gW_in (in2 (List.mem_of_getElem? (i := 193) rfl)) (by decide +kernel)
theorem k2_194 : (Cond.code ({ cls := "BookChecks$Acts", name := "tell", desc := "(III)I" } : MethodName) prog_2_method_2_code (5 : Nat) (Option.some ClassFile.FieldType.int)) ∈ gW := gW_in (in2 (List.mem_of_getElem? (i := 194) rfl)) (by decide +kernel)
theorem k2_196 : (Cond.methodLink "BookChecks$Acts" (25 : Nat) ({ cls := "BookChecks$Acts", name := "after", desc := "(II)I" } : MethodName)) ∈ gW := gW_in (in2 (List.mem_of_getElem? (i := 196) rfl)) (by decide +kernel)
theorem k2_197 : (Cond.static ({ cls := "BookChecks$Acts", name := "after", desc := "(II)I" } : MethodName)) ∈ gW := gW_in (in2 (List.mem_of_getElem? (i := 197) rfl)) (by decide +kernel)
theorem k2_198 : (Cond.code ({ cls := "BookChecks$Acts", name := "after", desc := "(II)I" } : MethodName) prog_2_method_3_code (2 : Nat) (Option.some ClassFile.FieldType.int)) ∈ gW := gW_in (in2 (List.mem_of_getElem? (i := 198) rfl)) (by decide +kernel)
theorem k2_199 : (Cond.methodLink "BookChecksLaw" (122 : Nat) ({ cls := "BookChecks", name := "state", desc := "(I)I" } : MethodName)) ∈ gW := gW_in (in2 (List.mem_of_getElem? (i := 199) rfl)) (by decide +kernel)
theorem k2_200 : (Cond.instanceMethod ({ cls := "BookChecks", name := "state", desc := "(I)I" } : MethodName)) ∈ gW := gW_in (in2 (List.mem_of_getElem? (i := 200) rfl)) (by decide +kernel)
theorem k2_201 : (Cond.selects "BookChecks" ({ cls := "BookChecks", name := "state", desc := "(I)I" } : MethodName) ({ cls := "BookChecks", name := "state", desc := "(I)I" } : MethodName)) ∈ gW := gW_in (in2 (List.mem_of_getElem? (i := 201) rfl)) (by decide +kernel)
theorem k2_202 : (Cond.code ({ cls := "BookChecks", name := "state", desc := "(I)I" } : MethodName) prog_1_method_22_code (2 : Nat) (Option.some ClassFile.FieldType.int)) ∈ gW := gW_in (in2 (List.mem_of_getElem? (i := 202) rfl)) (by decide +kernel)
theorem k2_203 : (Cond.methodLink "BookChecks" (164 : Nat) ({ cls := "BookChecks", name := "isShip", desc := "(I)Z" } : MethodName)) ∈ gW := gW_in (in2 (List.mem_of_getElem? (i := 203) rfl)) (by decide +kernel)
theorem k2_204 : (Cond.methodLink "BookChecksLaw" (126 : Nat) ({ cls := "BookChecks", name := "repeated", desc := "(I)I" } : MethodName)) ∈ gW := gW_in (in2 (List.mem_of_getElem? (i := 204) rfl)) (by decide +kernel)
theorem k2_205 : (Cond.instanceMethod ({ cls := "BookChecks", name := "repeated", desc := "(I)I" } : MethodName)) ∈ gW := gW_in (in2 (List.mem_of_getElem? (i := 205) rfl)) (by decide +kernel)
theorem k2_206 : (Cond.selects "BookChecks" ({ cls := "BookChecks", name := "repeated", desc := "(I)I" } : MethodName) ({ cls := "BookChecks", name := "repeated", desc := "(I)I" } : MethodName)) ∈ gW := gW_in (in2 (List.mem_of_getElem? (i := 206) rfl)) (by decide +kernel)
theorem k2_207 : (Cond.code ({ cls := "BookChecks", name := "repeated", desc := "(I)I" } : MethodName) prog_1_method_23_code (2 : Nat) (Option.some ClassFile.FieldType.int)) ∈ gW := gW_in (in2 (List.mem_of_getElem? (i := 207) rfl)) (by decide +kernel)
theorem k2_208 : (Cond.methodLink "BookChecksLaw" (15 : Nat) ({ cls := "BookChecksLaw", name := "cell", desc := "([II)I" } : MethodName)) ∈ gW := gW_in (in2 (List.mem_of_getElem? (i := 208) rfl)) (by decide +kernel)
theorem k2_209 : (Cond.static ({ cls := "BookChecksLaw", name := "cell", desc := "([II)I" } : MethodName)) ∈ gW := gW_in (in2 (List.mem_of_getElem? (i := 209) rfl)) (by decide +kernel)
theorem k2_210 : (Cond.code ({ cls := "BookChecksLaw", name := "cell", desc := "([II)I" } : MethodName) method_2_code (2 : Nat) (Option.some ClassFile.FieldType.int)) ∈ gW := gW_in (in2 (List.mem_of_getElem? (i := 210) rfl)) (by decide +kernel)
theorem k2_211 : (Cond.methodLink "BookChecksLaw" (61 : Nat) ({ cls := "BookChecksLaw", name := "pageAt", desc := "(LBookChecks;I[J)I" } : MethodName)) ∈ gW := gW_in (in2 (List.mem_of_getElem? (i := 211) rfl)) (by decide +kernel)
theorem k2_212 : (Cond.static ({ cls := "BookChecksLaw", name := "pageAt", desc := "(LBookChecks;I[J)I" } : MethodName)) ∈ gW := gW_in (in2 (List.mem_of_getElem? (i := 212) rfl)) (by decide +kernel)
theorem k2_214 : (Cond.classLink "BookChecksLaw" (13 : Nat) "java/lang/IndexOutOfBoundsException") ∈ gW := gW_in (in2 (List.mem_of_getElem? (i := 214) rfl)) (by decide +kernel)
theorem k2_215 : (Cond.methodLink "BookChecksLaw" (7 : Nat) ({ cls := "BookChecks", name := "pageAt", desc := "(I)J" } : MethodName)) ∈ gW := gW_in (in2 (List.mem_of_getElem? (i := 215) rfl)) (by decide +kernel)
theorem k2_216 : (Cond.instanceMethod ({ cls := "BookChecks", name := "pageAt", desc := "(I)J" } : MethodName)) ∈ gW := gW_in (in2 (List.mem_of_getElem? (i := 216) rfl)) (by decide +kernel)
theorem k2_217 : (Cond.selects "BookChecks" ({ cls := "BookChecks", name := "pageAt", desc := "(I)J" } : MethodName) ({ cls := "BookChecks", name := "pageAt", desc := "(I)J" } : MethodName)) ∈ gW := gW_in (in2 (List.mem_of_getElem? (i := 217) rfl)) (by decide +kernel)
theorem k2_218 : (Cond.code ({ cls := "BookChecks", name := "pageAt", desc := "(I)J" } : MethodName) prog_1_method_9_code (2 : Nat) (Option.some ClassFile.FieldType.long)) ∈ gW := gW_in (in2 (List.mem_of_getElem? (i := 218) rfl)) (by decide +kernel)
theorem k2_219 : (Cond.methodLink "BookChecks" (92 : Nat) ({ cls := "BookChecks$Book", name := "has", desc := "(I)Z" } : MethodName)) ∈ gW := gW_in (in2 (List.mem_of_getElem? (i := 219) rfl)) (by decide +kernel)
theorem k2_220 : (Cond.classLink "BookChecks" (96 : Nat) "java/lang/IndexOutOfBoundsException") ∈ gW := gW_in (in2 (List.mem_of_getElem? (i := 220) rfl)) (by decide +kernel)
theorem k2_221 : (Cond.instantiable "java/lang/IndexOutOfBoundsException" (6 : Nat)) ∈ gW := gW_in (in2 (List.mem_of_getElem? (i := 221) rfl)) (by decide +kernel)
theorem k2_229 : (Cond.selects "java/lang/IndexOutOfBoundsException" ({ cls := "java/lang/Throwable", name := "fillInStackTrace", desc := "(I)Ljava/lang/Throwable;" } : MethodName) ({ cls := "java/lang/Throwable", name := "fillInStackTrace", desc := "(I)Ljava/lang/Throwable;" } : MethodName)) ∈ gW := gW_in (in2 (List.mem_of_getElem? (i := 229) rfl)) (by decide +kernel)
theorem k2_230 : (Cond.selects "java/lang/IndexOutOfBoundsException" ({ cls := "java/lang/Throwable", name := "fillInStackTrace", desc := "()Ljava/lang/Throwable;" } : MethodName) ({ cls := "java/lang/Throwable", name := "fillInStackTrace", desc := "()Ljava/lang/Throwable;" } : MethodName)) ∈ gW := gW_in (in2 (List.mem_of_getElem? (i := 230) rfl)) (by decide +kernel)
theorem k2_231 : (Cond.lays "java/lang/IndexOutOfBoundsException" "java/lang/Throwable" "cause" "Ljava/lang/Throwable;") ∈ gW := gW_in (in2 (List.mem_of_getElem? (i := 231) rfl)) (by decide +kernel)
theorem k2_232 : (Cond.lays "java/lang/Throwable" "java/lang/Throwable" "cause" "Ljava/lang/Throwable;") ∈ gW := gW_in (in2 (List.mem_of_getElem? (i := 232) rfl)) (by decide +kernel)
theorem k2_233 : (Cond.lays "java/lang/IndexOutOfBoundsException" "java/lang/Throwable" "stackTrace" "[Ljava/lang/StackTraceElement;") ∈ gW := gW_in (in2 (List.mem_of_getElem? (i := 233) rfl)) (by decide +kernel)
theorem k2_234 : (Cond.lays "java/lang/Throwable" "java/lang/Throwable" "stackTrace" "[Ljava/lang/StackTraceElement;") ∈ gW := gW_in (in2 (List.mem_of_getElem? (i := 234) rfl)) (by decide +kernel)
theorem k2_235 : (Cond.lays "java/lang/IndexOutOfBoundsException" "java/lang/Throwable" "suppressedExceptions" "Ljava/util/List;") ∈ gW := gW_in (in2 (List.mem_of_getElem? (i := 235) rfl)) (by decide +kernel)
theorem k2_236 : (Cond.lays "java/lang/Throwable" "java/lang/Throwable" "suppressedExceptions" "Ljava/util/List;") ∈ gW := gW_in (in2 (List.mem_of_getElem? (i := 236) rfl)) (by decide +kernel)
theorem k2_237 : (Cond.lays "java/lang/IndexOutOfBoundsException" "java/lang/Throwable" "detailMessage" "Ljava/lang/String;") ∈ gW := gW_in (in2 (List.mem_of_getElem? (i := 237) rfl)) (by decide +kernel)
theorem k2_238 : (Cond.lays "java/lang/Throwable" "java/lang/Throwable" "detailMessage" "Ljava/lang/String;") ∈ gW := gW_in (in2 (List.mem_of_getElem? (i := 238) rfl)) (by decide +kernel)
theorem k2_239 : (Cond.lays "java/lang/IndexOutOfBoundsException" "java/lang/Throwable" "backtrace" "Ljava/lang/Object;") ∈ gW := gW_in (in2 (List.mem_of_getElem? (i := 239) rfl)) (by decide +kernel)
theorem k3_0 : (Cond.lays "java/lang/Throwable" "java/lang/Throwable" "backtrace" "Ljava/lang/Object;") ∈ gW := gW_in (in3 (List.mem_of_getElem? (i := 0) rfl)) (by decide +kernel)
theorem k3_32 : (Cond.fieldLink "java/lang/Throwable" (198 : Nat) "java/lang/Throwable" "backtrace" "Ljava/lang/Object;") ∈ gW := gW_in (in3 (List.mem_of_getElem? (i := 32) rfl)) (by decide +kernel)
theorem k3_2 : (Cond.superclass "java/lang/Throwable" "java/lang/Object") ∈ gW := gW_in (in3 (List.mem_of_getElem? (i := 2) rfl)) (by decide +kernel)
theorem k3_3 : (Cond.instanceMethod ({ cls := "java/lang/Throwable", name := "<init>", desc := "()V" } : MethodName)) ∈ gW := gW_in (in3 (List.mem_of_getElem? (i := 3) rfl)) (by decide +kernel)
theorem k3_4 : (Cond.code ({ cls := "java/lang/Throwable", name := "<init>", desc := "()V" } : MethodName) prog_17_method_1_code (1 : Nat) (Option.none : Option ClassFile.FieldType)) ∈ gW := gW_in (in3 (List.mem_of_getElem? (i := 4) rfl)) (by decide +kernel)
theorem k3_5 : (Cond.methodLink "java/lang/Throwable" (1 : Nat) ({ cls := "java/lang/Object", name := "<init>", desc := "()V" } : MethodName)) ∈ gW := gW_in (in3 (List.mem_of_getElem? (i := 5) rfl)) (by decide +kernel)
theorem k3_6 : (Cond.fieldLink "java/lang/Throwable" (13 : Nat) "java/lang/Throwable" "UNASSIGNED_STACK" "[Ljava/lang/StackTraceElement;") ∈ gW := gW_in (in3 (List.mem_of_getElem? (i := 6) rfl)) (by decide +kernel)
theorem k3_8 : (Cond.fieldLink "java/lang/Throwable" (20 : Nat) "java/lang/Throwable" "SUPPRESSED_SENTINEL" "Ljava/util/List;") ∈ gW := gW_in (in3 (List.mem_of_getElem? (i := 8) rfl)) (by decide +kernel)
theorem k3_10 : (Cond.methodLink "java/lang/Throwable" (27 : Nat) ({ cls := "java/lang/Throwable", name := "fillInStackTrace", desc := "()Ljava/lang/Throwable;" } : MethodName)) ∈ gW := gW_in (in3 (List.mem_of_getElem? (i := 10) rfl)) (by decide +kernel)
theorem k3_11 : (Cond.instanceMethod ({ cls := "java/lang/Throwable", name := "fillInStackTrace", desc := "()Ljava/lang/Throwable;" } : MethodName)) ∈ gW := gW_in (in3 (List.mem_of_getElem? (i := 11) rfl)) (by decide +kernel)
theorem k3_14 : (Cond.methodLink "java/lang/Throwable" (202 : Nat) ({ cls := "java/lang/Throwable", name := "fillInStackTrace", desc := "(I)Ljava/lang/Throwable;" } : MethodName)) ∈ gW := gW_in (in3 (List.mem_of_getElem? (i := 14) rfl)) (by decide +kernel)
theorem k3_16 : (Cond.instanceMethod ({ cls := "java/lang/Throwable", name := "fillInStackTrace", desc := "(I)Ljava/lang/Throwable;" } : MethodName)) ∈ gW := gW_in (in3 (List.mem_of_getElem? (i := 16) rfl)) (by decide +kernel)
theorem k3_17 : (Cond.instantiable "java/lang/Throwable" (6 : Nat)) ∈ gW := gW_in (in3 (List.mem_of_getElem? (i := 17) rfl)) (by decide +kernel)
theorem k3_20 : (Cond.methodLink "BookChecks" (100 : Nat) ({ cls := "java/lang/IndexOutOfBoundsException", name := "<init>", desc := "(Ljava/lang/String;)V" } : MethodName)) ∈ gW := gW_in (in3 (List.mem_of_getElem? (i := 20) rfl)) (by decide +kernel)
theorem k3_21 : (Cond.instanceMethod ({ cls := "java/lang/IndexOutOfBoundsException", name := "<init>", desc := "(Ljava/lang/String;)V" } : MethodName)) ∈ gW := gW_in (in3 (List.mem_of_getElem? (i := 21) rfl)) (by decide +kernel)
theorem k3_22 : (Cond.code ({ cls := "java/lang/IndexOutOfBoundsException", name := "<init>", desc := "(Ljava/lang/String;)V" } : MethodName) prog_12_method_2_code (2 : Nat) (Option.none : Option ClassFile.FieldType)) ∈ gW := gW_in (in3 (List.mem_of_getElem? (i := 22) rfl)) (by decide +kernel)
theorem k3_23 : (Cond.methodLink "java/lang/IndexOutOfBoundsException" (7 : Nat) ({ cls := "java/lang/RuntimeException", name := "<init>", desc := "(Ljava/lang/String;)V" } : MethodName)) ∈ gW := gW_in (in3 (List.mem_of_getElem? (i := 23) rfl)) (by decide +kernel)
theorem k3_24 : (Cond.instanceMethod ({ cls := "java/lang/RuntimeException", name := "<init>", desc := "(Ljava/lang/String;)V" } : MethodName)) ∈ gW := gW_in (in3 (List.mem_of_getElem? (i := 24) rfl)) (by decide +kernel)
theorem k3_25 : (Cond.code ({ cls := "java/lang/RuntimeException", name := "<init>", desc := "(Ljava/lang/String;)V" } : MethodName) prog_15_method_2_code (2 : Nat) (Option.none : Option ClassFile.FieldType)) ∈ gW := gW_in (in3 (List.mem_of_getElem? (i := 25) rfl)) (by decide +kernel)
theorem k3_26 : (Cond.methodLink "java/lang/RuntimeException" (7 : Nat) ({ cls := "java/lang/Exception", name := "<init>", desc := "(Ljava/lang/String;)V" } : MethodName)) ∈ gW := gW_in (in3 (List.mem_of_getElem? (i := 26) rfl)) (by decide +kernel)
theorem k3_27 : (Cond.instanceMethod ({ cls := "java/lang/Exception", name := "<init>", desc := "(Ljava/lang/String;)V" } : MethodName)) ∈ gW := gW_in (in3 (List.mem_of_getElem? (i := 27) rfl)) (by decide +kernel)
theorem k3_28 : (Cond.code ({ cls := "java/lang/Exception", name := "<init>", desc := "(Ljava/lang/String;)V" } : MethodName) prog_11_method_2_code (2 : Nat) (Option.none : Option ClassFile.FieldType)) ∈ gW := gW_in (in3 (List.mem_of_getElem? (i := 28) rfl)) (by decide +kernel)
theorem k3_29 : (Cond.methodLink "java/lang/Exception" (7 : Nat) ({ cls := "java/lang/Throwable", name := "<init>", desc := "(Ljava/lang/String;)V" } : MethodName)) ∈ gW := gW_in (in3 (List.mem_of_getElem? (i := 29) rfl)) (by decide +kernel)
theorem k3_30 : (Cond.instanceMethod ({ cls := "java/lang/Throwable", name := "<init>", desc := "(Ljava/lang/String;)V" } : MethodName)) ∈ gW := gW_in (in3 (List.mem_of_getElem? (i := 30) rfl)) (by decide +kernel)
theorem k3_31 : (Cond.code ({ cls := "java/lang/Throwable", name := "<init>", desc := "(Ljava/lang/String;)V" } : MethodName) prog_17_method_2_code (2 : Nat) (Option.none : Option ClassFile.FieldType)) ∈ gW := gW_in (in3 (List.mem_of_getElem? (i := 31) rfl)) (by decide +kernel)
theorem k3_33 : (Cond.fieldLink "java/lang/Throwable" (31 : Nat) "java/lang/Throwable" "detailMessage" "Ljava/lang/String;") ∈ gW := gW_in (in3 (List.mem_of_getElem? (i := 33) rfl)) (by decide +kernel)
theorem k3_34 : (Cond.fieldLink "java/lang/Throwable" (7 : Nat) "java/lang/Throwable" "cause" "Ljava/lang/Throwable;") ∈ gW := gW_in (in3 (List.mem_of_getElem? (i := 34) rfl)) (by decide +kernel)
theorem k3_35 : (Cond.fieldLink "java/lang/Throwable" (17 : Nat) "java/lang/Throwable" "stackTrace" "[Ljava/lang/StackTraceElement;") ∈ gW := gW_in (in3 (List.mem_of_getElem? (i := 35) rfl)) (by decide +kernel)
theorem k3_36 : (Cond.fieldLink "java/lang/Throwable" (24 : Nat) "java/lang/Throwable" "suppressedExceptions" "Ljava/util/List;") ∈ gW := gW_in (in3 (List.mem_of_getElem? (i := 36) rfl)) (by decide +kernel)
theorem k3_41 : (Cond.lays "java/lang/IndexOutOfBoundsException" "java/lang/Throwable" "depth" "I") ∈ gW := gW_in (in3 (List.mem_of_getElem? (i := 41) rfl)) (by decide +kernel)
theorem k3_44 : (Cond.superclass "java/lang/IndexOutOfBoundsException" "java/lang/RuntimeException") ∈ gW := gW_in (in3 (List.mem_of_getElem? (i := 44) rfl)) (by decide +kernel)
theorem k3_45 : (Cond.arrayClass ClassFile.FieldType.byte) ∈ gW := gW_in (in3 (List.mem_of_getElem? (i := 45) rfl)) (by decide +kernel)
theorem k3_46 : (Cond.classLink "BookChecksLaw" (24 : Nat) "BookChecksModel") ∈ gW := gW_in (in3 (List.mem_of_getElem? (i := 46) rfl)) (by decide +kernel)
theorem k3_47 : (Cond.instantiable "BookChecksModel" (27 : Nat)) ∈ gW := gW_in (in3 (List.mem_of_getElem? (i := 47) rfl)) (by decide +kernel)
theorem k3_48 : (Cond.methodLink "BookChecksLaw" (26 : Nat) ({ cls := "BookChecksModel", name := "<init>", desc := "(J)V" } : MethodName)) ∈ gW := gW_in (in3 (List.mem_of_getElem? (i := 48) rfl)) (by decide +kernel)
theorem k3_49 : (Cond.instanceMethod ({ cls := "BookChecksModel", name := "<init>", desc := "(J)V" } : MethodName)) ∈ gW := gW_in (in3 (List.mem_of_getElem? (i := 49) rfl)) (by decide +kernel)
theorem k3_50 : (Cond.code ({ cls := "BookChecksModel", name := "<init>", desc := "(J)V" } : MethodName) prog_10_method_1_code (5 : Nat) (Option.none : Option ClassFile.FieldType)) ∈ gW := gW_in (in3 (List.mem_of_getElem? (i := 50) rfl)) (by decide +kernel)
theorem k3_51 : (Cond.methodLink "BookChecksModel" (1 : Nat) ({ cls := "java/lang/Object", name := "<init>", desc := "()V" } : MethodName)) ∈ gW := gW_in (in3 (List.mem_of_getElem? (i := 51) rfl)) (by decide +kernel)
theorem k3_52 : (Cond.fieldLink "BookChecksModel" (79 : Nat) "BookChecksModel" "code" "I") ∈ gW := gW_in (in3 (List.mem_of_getElem? (i := 52) rfl)) (by decide +kernel)
theorem k3_53 : (Cond.fieldLink "BookChecksModel" (75 : Nat) "BookChecksModel" "seed" "J") ∈ gW := gW_in (in3 (List.mem_of_getElem? (i := 53) rfl)) (by decide +kernel)
theorem k3_54 : (Cond.fieldLink "BookChecksModel" (7 : Nat) "BookChecksModel" "counts" "[I") ∈ gW := gW_in (in3 (List.mem_of_getElem? (i := 54) rfl)) (by decide +kernel)
theorem k3_55 : (Cond.fieldLink "BookChecksModel" (13 : Nat) "BookChecksModel" "ships" "[I") ∈ gW := gW_in (in3 (List.mem_of_getElem? (i := 55) rfl)) (by decide +kernel)
theorem k3_56 : (Cond.fieldLink "BookChecksModel" (16 : Nat) "BookChecksModel" "days" "[I") ∈ gW := gW_in (in3 (List.mem_of_getElem? (i := 56) rfl)) (by decide +kernel)
theorem k3_57 : (Cond.fieldLink "BookChecksModel" (19 : Nat) "BookChecksModel" "kinds" "[I") ∈ gW := gW_in (in3 (List.mem_of_getElem? (i := 57) rfl)) (by decide +kernel)
theorem k3_58 : (Cond.fieldLink "BookChecksModel" (22 : Nat) "BookChecksModel" "grams" "[J") ∈ gW := gW_in (in3 (List.mem_of_getElem? (i := 58) rfl)) (by decide +kernel)
theorem k3_59 : (Cond.fieldLink "BookChecksModel" (26 : Nat) "BookChecksModel" "saleOf" "[I") ∈ gW := gW_in (in3 (List.mem_of_getElem? (i := 59) rfl)) (by decide +kernel)
theorem k3_60 : (Cond.fieldLink "BookChecksModel" (29 : Nat) "BookChecksModel" "sold" "[Z") ∈ gW := gW_in (in3 (List.mem_of_getElem? (i := 60) rfl)) (by decide +kernel)
theorem k3_61 : (Cond.fieldLink "BookChecksModel" (110 : Nat) "BookChecksModel" "plants" "I") ∈ gW := gW_in (in3 (List.mem_of_getElem? (i := 61) rfl)) (by decide +kernel)
theorem k3_62 : (Cond.fieldLink "BookChecksModel" (33 : Nat) "BookChecksModel" "ins" "[J") ∈ gW := gW_in (in3 (List.mem_of_getElem? (i := 62) rfl)) (by decide +kernel)
theorem k3_63 : (Cond.fieldLink "BookChecksModel" (36 : Nat) "BookChecksModel" "plantKinds" "[I") ∈ gW := gW_in (in3 (List.mem_of_getElem? (i := 63) rfl)) (by decide +kernel)
theorem k3_64 : (Cond.fieldLink "BookChecksModel" (39 : Nat) "BookChecksModel" "outs" "[I") ∈ gW := gW_in (in3 (List.mem_of_getElem? (i := 64) rfl)) (by decide +kernel)
theorem k3_65 : (Cond.fieldLink "BookChecksModel" (42 : Nat) "BookChecksModel" "outKinds" "[I") ∈ gW := gW_in (in3 (List.mem_of_getElem? (i := 65) rfl)) (by decide +kernel)
theorem k3_66 : (Cond.fieldLink "BookChecksModel" (45 : Nat) "BookChecksModel" "outGrams" "[J") ∈ gW := gW_in (in3 (List.mem_of_getElem? (i := 66) rfl)) (by decide +kernel)
theorem k3_67 : (Cond.fieldLink "BookChecksModel" (48 : Nat) "BookChecksModel" "weights" "[I") ∈ gW := gW_in (in3 (List.mem_of_getElem? (i := 67) rfl)) (by decide +kernel)
theorem k3_68 : (Cond.fieldLink "BookChecksModel" (141 : Nat) "BookChecksModel" "asked" "I") ∈ gW := gW_in (in3 (List.mem_of_getElem? (i := 68) rfl)) (by decide +kernel)
theorem k3_69 : (Cond.fieldLink "BookChecksModel" (144 : Nat) "BookChecksModel" "drawnCount" "I") ∈ gW := gW_in (in3 (List.mem_of_getElem? (i := 69) rfl)) (by decide +kernel)
theorem k3_70 : (Cond.fieldLink "BookChecksModel" (51 : Nat) "BookChecksModel" "drawn" "[I") ∈ gW := gW_in (in3 (List.mem_of_getElem? (i := 70) rfl)) (by decide +kernel)
theorem k3_71 : (Cond.fieldLink "BookChecksModel" (130 : Nat) "BookChecksModel" "triedCount" "I") ∈ gW := gW_in (in3 (List.mem_of_getElem? (i := 71) rfl)) (by decide +kernel)
theorem k3_72 : (Cond.fieldLink "BookChecksModel" (54 : Nat) "BookChecksModel" "tried" "[I") ∈ gW := gW_in (in3 (List.mem_of_getElem? (i := 72) rfl)) (by decide +kernel)
theorem k3_73 : (Cond.fieldLink "BookChecksModel" (57 : Nat) "BookChecksModel" "gone" "[Z") ∈ gW := gW_in (in3 (List.mem_of_getElem? (i := 73) rfl)) (by decide +kernel)
theorem k3_74 : (Cond.fieldLink "BookChecksModel" (60 : Nat) "BookChecksModel" "choices" "[J") ∈ gW := gW_in (in3 (List.mem_of_getElem? (i := 74) rfl)) (by decide +kernel)
theorem k3_75 : (Cond.fieldLink "BookChecksModel" (63 : Nat) "BookChecksModel" "watched" "[Z") ∈ gW := gW_in (in3 (List.mem_of_getElem? (i := 75) rfl)) (by decide +kernel)
theorem k3_76 : (Cond.fieldLink "BookChecksModel" (66 : Nat) "BookChecksModel" "states" "[I") ∈ gW := gW_in (in3 (List.mem_of_getElem? (i := 76) rfl)) (by decide +kernel)
theorem k3_77 : (Cond.fieldLink "BookChecksModel" (69 : Nat) "BookChecksModel" "persons" "[I") ∈ gW := gW_in (in3 (List.mem_of_getElem? (i := 77) rfl)) (by decide +kernel)
theorem k3_78 : (Cond.fieldLink "BookChecksModel" (72 : Nat) "BookChecksModel" "wrongs" "[I") ∈ gW := gW_in (in3 (List.mem_of_getElem? (i := 78) rfl)) (by decide +kernel)
theorem k3_79 : (Cond.lays "BookChecksModel" "BookChecksModel" "code" "I") ∈ gW := gW_in (in3 (List.mem_of_getElem? (i := 79) rfl)) (by decide +kernel)
theorem k3_81 : (Cond.laysFinal "BookChecksModel" "BookChecksModel" "seed" "J") ∈ gW := gW_in (in3 (List.mem_of_getElem? (i := 81) rfl)) (by decide +kernel)
theorem k3_83 : (Cond.laysFinal "BookChecksModel" "BookChecksModel" "counts" "[I") ∈ gW := gW_in (in3 (List.mem_of_getElem? (i := 83) rfl)) (by decide +kernel)
theorem k3_85 : (Cond.laysFinal "BookChecksModel" "BookChecksModel" "ships" "[I") ∈ gW := gW_in (in3 (List.mem_of_getElem? (i := 85) rfl)) (by decide +kernel)
theorem k3_87 : (Cond.laysFinal "BookChecksModel" "BookChecksModel" "days" "[I") ∈ gW := gW_in (in3 (List.mem_of_getElem? (i := 87) rfl)) (by decide +kernel)
theorem k3_89 : (Cond.laysFinal "BookChecksModel" "BookChecksModel" "kinds" "[I") ∈ gW := gW_in (in3 (List.mem_of_getElem? (i := 89) rfl)) (by decide +kernel)
theorem k3_91 : (Cond.laysFinal "BookChecksModel" "BookChecksModel" "grams" "[J") ∈ gW := gW_in (in3 (List.mem_of_getElem? (i := 91) rfl)) (by decide +kernel)
theorem k3_93 : (Cond.laysFinal "BookChecksModel" "BookChecksModel" "saleOf" "[I") ∈ gW := gW_in (in3 (List.mem_of_getElem? (i := 93) rfl)) (by decide +kernel)
theorem k3_95 : (Cond.laysFinal "BookChecksModel" "BookChecksModel" "sold" "[Z") ∈ gW := gW_in (in3 (List.mem_of_getElem? (i := 95) rfl)) (by decide +kernel)
theorem k3_97 : (Cond.lays "BookChecksModel" "BookChecksModel" "plants" "I") ∈ gW := gW_in (in3 (List.mem_of_getElem? (i := 97) rfl)) (by decide +kernel)
theorem k3_99 : (Cond.laysFinal "BookChecksModel" "BookChecksModel" "ins" "[J") ∈ gW := gW_in (in3 (List.mem_of_getElem? (i := 99) rfl)) (by decide +kernel)
theorem k3_101 : (Cond.laysFinal "BookChecksModel" "BookChecksModel" "plantKinds" "[I") ∈ gW := gW_in (in3 (List.mem_of_getElem? (i := 101) rfl)) (by decide +kernel)
theorem k3_103 : (Cond.laysFinal "BookChecksModel" "BookChecksModel" "outs" "[I") ∈ gW := gW_in (in3 (List.mem_of_getElem? (i := 103) rfl)) (by decide +kernel)
theorem k3_105 : (Cond.laysFinal "BookChecksModel" "BookChecksModel" "outKinds" "[I") ∈ gW := gW_in (in3 (List.mem_of_getElem? (i := 105) rfl)) (by decide +kernel)
theorem k3_107 : (Cond.laysFinal "BookChecksModel" "BookChecksModel" "outGrams" "[J") ∈ gW := gW_in (in3 (List.mem_of_getElem? (i := 107) rfl)) (by decide +kernel)
theorem k3_109 : (Cond.laysFinal "BookChecksModel" "BookChecksModel" "weights" "[I") ∈ gW := gW_in (in3 (List.mem_of_getElem? (i := 109) rfl)) (by decide +kernel)
theorem k3_111 : (Cond.lays "BookChecksModel" "BookChecksModel" "asked" "I") ∈ gW := gW_in (in3 (List.mem_of_getElem? (i := 111) rfl)) (by decide +kernel)
theorem k3_113 : (Cond.lays "BookChecksModel" "BookChecksModel" "drawnCount" "I") ∈ gW := gW_in (in3 (List.mem_of_getElem? (i := 113) rfl)) (by decide +kernel)
theorem k3_115 : (Cond.laysFinal "BookChecksModel" "BookChecksModel" "drawn" "[I") ∈ gW := gW_in (in3 (List.mem_of_getElem? (i := 115) rfl)) (by decide +kernel)
theorem k3_117 : (Cond.lays "BookChecksModel" "BookChecksModel" "triedCount" "I") ∈ gW := gW_in (in3 (List.mem_of_getElem? (i := 117) rfl)) (by decide +kernel)
theorem k3_119 : (Cond.laysFinal "BookChecksModel" "BookChecksModel" "tried" "[I") ∈ gW := gW_in (in3 (List.mem_of_getElem? (i := 119) rfl)) (by decide +kernel)
theorem k3_121 : (Cond.laysFinal "BookChecksModel" "BookChecksModel" "gone" "[Z") ∈ gW := gW_in (in3 (List.mem_of_getElem? (i := 121) rfl)) (by decide +kernel)
theorem k3_123 : (Cond.laysFinal "BookChecksModel" "BookChecksModel" "choices" "[J") ∈ gW := gW_in (in3 (List.mem_of_getElem? (i := 123) rfl)) (by decide +kernel)
theorem k3_125 : (Cond.laysFinal "BookChecksModel" "BookChecksModel" "watched" "[Z") ∈ gW := gW_in (in3 (List.mem_of_getElem? (i := 125) rfl)) (by decide +kernel)
theorem k3_127 : (Cond.laysFinal "BookChecksModel" "BookChecksModel" "states" "[I") ∈ gW := gW_in (in3 (List.mem_of_getElem? (i := 127) rfl)) (by decide +kernel)
theorem k3_129 : (Cond.laysFinal "BookChecksModel" "BookChecksModel" "persons" "[I") ∈ gW := gW_in (in3 (List.mem_of_getElem? (i := 129) rfl)) (by decide +kernel)
theorem k3_131 : (Cond.laysFinal "BookChecksModel" "BookChecksModel" "wrongs" "[I") ∈ gW := gW_in (in3 (List.mem_of_getElem? (i := 131) rfl)) (by decide +kernel)
theorem k3_133 : (Cond.superclass "BookChecksModel" "java/lang/Object") ∈ gW := gW_in (in3 (List.mem_of_getElem? (i := 133) rfl)) (by decide +kernel)
theorem k3_134 : (Cond.arrayClass ClassFile.FieldType.boolean) ∈ gW := gW_in (in3 (List.mem_of_getElem? (i := 134) rfl)) (by decide +kernel)
theorem k3_135 : (Cond.methodLink "BookChecksLaw" (65 : Nat) ({ cls := "BookChecksModel", name := "thrown", desc := "()I" } : MethodName)) ∈ gW := gW_in (in3 (List.mem_of_getElem? (i := 135) rfl)) (by decide +kernel)
theorem k3_136 : (Cond.instanceMethod ({ cls := "BookChecksModel", name := "thrown", desc := "()I" } : MethodName)) ∈ gW := gW_in (in3 (List.mem_of_getElem? (i := 136) rfl)) (by decide +kernel)
theorem k3_137 : (Cond.selects "BookChecksModel" ({ cls := "BookChecksModel", name := "thrown", desc := "()I" } : MethodName) ({ cls := "BookChecksModel", name := "thrown", desc := "()I" } : MethodName)) ∈ gW := gW_in (in3 (List.mem_of_getElem? (i := 137) rfl)) (by decide +kernel)
theorem k3_138 : (Cond.code ({ cls := "BookChecksModel", name := "thrown", desc := "()I" } : MethodName) prog_10_method_2_code (1 : Nat) (Option.some ClassFile.FieldType.int)) ∈ gW := gW_in (in3 (List.mem_of_getElem? (i := 138) rfl)) (by decide +kernel)
theorem k3_139 : (Cond.methodLink "BookChecksLaw" (33 : Nat) ({ cls := "BookChecksModel", name := "page", desc := "(IIIJ)I" } : MethodName)) ∈ gW := gW_in (in3 (List.mem_of_getElem? (i := 139) rfl)) (by decide +kernel)
theorem k3_140 : (Cond.instanceMethod ({ cls := "BookChecksModel", name := "page", desc := "(IIIJ)I" } : MethodName)) ∈ gW := gW_in (in3 (List.mem_of_getElem? (i := 140) rfl)) (by decide +kernel)
theorem k3_141 : (Cond.selects "BookChecksModel" ({ cls := "BookChecksModel", name := "page", desc := "(IIIJ)I" } : MethodName) ({ cls := "BookChecksModel", name := "page", desc := "(IIIJ)I" } : MethodName)) ∈ gW := gW_in (in3 (List.mem_of_getElem? (i := 141) rfl)) (by decide +kernel)
theorem k3_142 : (Cond.code ({ cls := "BookChecksModel", name := "page", desc := "(IIIJ)I" } : MethodName) prog_10_method_6_code (6 : Nat) (Option.some ClassFile.FieldType.int)) ∈ gW := gW_in (in3 (List.mem_of_getElem? (i := 142) rfl)) (by decide +kernel)
theorem k3_143 : (Cond.methodLink "BookChecksModel" (95 : Nat) ({ cls := "BookChecksModel", name := "tell", desc := "(IIIIJ)I" } : MethodName)) ∈ gW := gW_in (in3 (List.mem_of_getElem? (i := 143) rfl)) (by decide +kernel)
theorem k3_145 : (Cond.instanceMethod ({ cls := "BookChecksModel", name := "tell", desc := "(IIIIJ)I" } : MethodName)) ∈ gW := gW_in (in3 (List.mem_of_getElem? (i := 145) rfl)) (by decide +kernel)
theorem k3_146 : (Cond.code ({ cls := "BookChecksModel", name := "tell", desc := "(IIIIJ)I" } : MethodName) prog_10_method_5_code (8 : Nat) (Option.some ClassFile.FieldType.int)) ∈ gW := gW_in (in3 (List.mem_of_getElem? (i := 146) rfl)) (by decide +kernel)
theorem k3_147 : (Cond.methodLink "BookChecksModel" (83 : Nat) ({ cls := "BookChecksModel", name := "isTen", desc := "(I)Z" } : MethodName)) ∈ gW := gW_in (in3 (List.mem_of_getElem? (i := 147) rfl)) (by decide +kernel)
theorem k3_148 : (Cond.static ({ cls := "BookChecksModel", name := "isTen", desc := "(I)Z" } : MethodName)) ∈ gW := gW_in (in3 (List.mem_of_getElem? (i := 148) rfl)) (by decide +kernel)
theorem k3_149 : (Cond.code ({ cls := "BookChecksModel", name := "isTen", desc := "(I)Z" } : MethodName) prog_10_method_4_code (1 : Nat) (Option.some ClassFile.FieldType.boolean)) ∈ gW := gW_in (in3 (List.mem_of_getElem? (i := 149) rfl)) (by decide +kernel)
theorem k3_150 : (Cond.constantLong "BookChecksModel" (87 : Nat) (100000 : Int64)) ∈ gW := gW_in (in3 (List.mem_of_getElem? (i := 150) rfl)) (by decide +kernel)
theorem k3_151 : (Cond.methodLink "BookChecksModel" (89 : Nat) ({ cls := "BookChecksModel", name := "within", desc := "(JJJ)Z" } : MethodName)) ∈ gW := gW_in (in3 (List.mem_of_getElem? (i := 151) rfl)) (by decide +kernel)
theorem k3_152 : (Cond.static ({ cls := "BookChecksModel", name := "within", desc := "(JJJ)Z" } : MethodName)) ∈ gW := gW_in (in3 (List.mem_of_getElem? (i := 152) rfl)) (by decide +kernel)
theorem k3_153 : (Cond.code ({ cls := "BookChecksModel", name := "within", desc := "(JJJ)Z" } : MethodName) prog_10_method_3_code (6 : Nat) (Option.some ClassFile.FieldType.boolean)) ∈ gW := gW_in (in3 (List.mem_of_getElem? (i := 153) rfl)) (by decide +kernel)
theorem k3_154 : (Cond.constantLong "BookChecksModel" (93 : Nat) (1000000000 : Int64)) ∈ gW := gW_in (in3 (List.mem_of_getElem? (i := 154) rfl)) (by decide +kernel)
theorem k3_155 : (Cond.methodLink "BookChecksLaw" (37 : Nat) ({ cls := "BookChecksModel", name := "sale", desc := "(IIIJ)I" } : MethodName)) ∈ gW := gW_in (in3 (List.mem_of_getElem? (i := 155) rfl)) (by decide +kernel)
theorem k3_156 : (Cond.instanceMethod ({ cls := "BookChecksModel", name := "sale", desc := "(IIIJ)I" } : MethodName)) ∈ gW := gW_in (in3 (List.mem_of_getElem? (i := 156) rfl)) (by decide +kernel)
theorem k3_157 : (Cond.selects "BookChecksModel" ({ cls := "BookChecksModel", name := "sale", desc := "(IIIJ)I" } : MethodName) ({ cls := "BookChecksModel", name := "sale", desc := "(IIIJ)I" } : MethodName)) ∈ gW := gW_in (in3 (List.mem_of_getElem? (i := 157) rfl)) (by decide +kernel)
theorem k3_158 : (Cond.code ({ cls := "BookChecksModel", name := "sale", desc := "(IIIJ)I" } : MethodName) prog_10_method_7_code (6 : Nat) (Option.some ClassFile.FieldType.int)) ∈ gW := gW_in (in3 (List.mem_of_getElem? (i := 158) rfl)) (by decide +kernel)
theorem k3_159 : (Cond.methodLink "BookChecksLaw" (42 : Nat) ({ cls := "BookChecksModel", name := "run", desc := "()I" } : MethodName)) ∈ gW := gW_in (in3 (List.mem_of_getElem? (i := 159) rfl)) (by decide +kernel)
theorem k3_160 : (Cond.instanceMethod ({ cls := "BookChecksModel", name := "run", desc := "()I" } : MethodName)) ∈ gW := gW_in (in3 (List.mem_of_getElem? (i := 160) rfl)) (by decide +kernel)
theorem k3_161 : (Cond.selects "BookChecksModel" ({ cls := "BookChecksModel", name := "run", desc := "()I" } : MethodName) ({ cls := "BookChecksModel", name := "run", desc := "()I" } : MethodName)) ∈ gW := gW_in (in3 (List.mem_of_getElem? (i := 161) rfl)) (by decide +kernel)
theorem k3_162 : (Cond.code ({ cls := "BookChecksModel", name := "run", desc := "()I" } : MethodName) prog_10_method_9_code (9 : Nat) (Option.some ClassFile.FieldType.int)) ∈ gW := gW_in (in3 (List.mem_of_getElem? (i := 162) rfl)) (by decide +kernel)
theorem k3_163 : (Cond.methodLink "BookChecksModel" (101 : Nat) ({ cls := "BookChecksModel", name := "pointsOf", desc := "(II)I" } : MethodName)) ∈ gW := gW_in (in3 (List.mem_of_getElem? (i := 163) rfl)) (by decide +kernel)
theorem k3_165 : (Cond.instanceMethod ({ cls := "BookChecksModel", name := "pointsOf", desc := "(II)I" } : MethodName)) ∈ gW := gW_in (in3 (List.mem_of_getElem? (i := 165) rfl)) (by decide +kernel)
theorem k3_166 : (Cond.code ({ cls := "BookChecksModel", name := "pointsOf", desc := "(II)I" } : MethodName) prog_10_method_8_code (10 : Nat) (Option.some ClassFile.FieldType.int)) ∈ gW := gW_in (in3 (List.mem_of_getElem? (i := 166) rfl)) (by decide +kernel)
theorem k3_167 : (Cond.constantLong "BookChecksModel" (99 : Nat) (900 : Int64)) ∈ gW := gW_in (in3 (List.mem_of_getElem? (i := 167) rfl)) (by decide +kernel)
theorem k3_168 : (Cond.methodLink "BookChecksLaw" (47 : Nat) ({ cls := "BookChecksModel", name := "pair", desc := "(I)I" } : MethodName)) ∈ gW := gW_in (in3 (List.mem_of_getElem? (i := 168) rfl)) (by decide +kernel)
theorem k3_169 : (Cond.instanceMethod ({ cls := "BookChecksModel", name := "pair", desc := "(I)I" } : MethodName)) ∈ gW := gW_in (in3 (List.mem_of_getElem? (i := 169) rfl)) (by decide +kernel)
theorem k3_170 : (Cond.selects "BookChecksModel" ({ cls := "BookChecksModel", name := "pair", desc := "(I)I" } : MethodName) ({ cls := "BookChecksModel", name := "pair", desc := "(I)I" } : MethodName)) ∈ gW := gW_in (in3 (List.mem_of_getElem? (i := 170) rfl)) (by decide +kernel)
theorem k3_171 : (Cond.code ({ cls := "BookChecksModel", name := "pair", desc := "(I)I" } : MethodName) prog_10_method_11_code (2 : Nat) (Option.some ClassFile.FieldType.int)) ∈ gW := gW_in (in3 (List.mem_of_getElem? (i := 171) rfl)) (by decide +kernel)
theorem k3_172 : (Cond.methodLink "BookChecksModel" (105 : Nat) ({ cls := "BookChecksModel", name := "isPage", desc := "(I)Z" } : MethodName)) ∈ gW := gW_in (in3 (List.mem_of_getElem? (i := 172) rfl)) (by decide +kernel)
theorem k3_174 : (Cond.instanceMethod ({ cls := "BookChecksModel", name := "isPage", desc := "(I)Z" } : MethodName)) ∈ gW := gW_in (in3 (List.mem_of_getElem? (i := 174) rfl)) (by decide +kernel)
theorem k3_175 : (Cond.code ({ cls := "BookChecksModel", name := "isPage", desc := "(I)Z" } : MethodName) prog_10_method_10_code (2 : Nat) (Option.some ClassFile.FieldType.boolean)) ∈ gW := gW_in (in3 (List.mem_of_getElem? (i := 175) rfl)) (by decide +kernel)
theorem k3_176 : (Cond.methodLink "BookChecksLaw" (51 : Nat) ({ cls := "BookChecksModel", name := "points", desc := "(I)I" } : MethodName)) ∈ gW := gW_in (in3 (List.mem_of_getElem? (i := 176) rfl)) (by decide +kernel)
theorem k3_177 : (Cond.instanceMethod ({ cls := "BookChecksModel", name := "points", desc := "(I)I" } : MethodName)) ∈ gW := gW_in (in3 (List.mem_of_getElem? (i := 177) rfl)) (by decide +kernel)
theorem k3_178 : (Cond.selects "BookChecksModel" ({ cls := "BookChecksModel", name := "points", desc := "(I)I" } : MethodName) ({ cls := "BookChecksModel", name := "points", desc := "(I)I" } : MethodName)) ∈ gW := gW_in (in3 (List.mem_of_getElem? (i := 178) rfl)) (by decide +kernel)
theorem k3_179 : (Cond.code ({ cls := "BookChecksModel", name := "points", desc := "(I)I" } : MethodName) prog_10_method_12_code (2 : Nat) (Option.some ClassFile.FieldType.int)) ∈ gW := gW_in (in3 (List.mem_of_getElem? (i := 179) rfl)) (by decide +kernel)
theorem k3_180 : (Cond.methodLink "BookChecksLaw" (55 : Nat) ({ cls := "BookChecksModel", name := "differs", desc := "(I)J" } : MethodName)) ∈ gW := gW_in (in3 (List.mem_of_getElem? (i := 180) rfl)) (by decide +kernel)
theorem k3_181 : (Cond.instanceMethod ({ cls := "BookChecksModel", name := "differs", desc := "(I)J" } : MethodName)) ∈ gW := gW_in (in3 (List.mem_of_getElem? (i := 181) rfl)) (by decide +kernel)
theorem k3_182 : (Cond.selects "BookChecksModel" ({ cls := "BookChecksModel", name := "differs", desc := "(I)J" } : MethodName) ({ cls := "BookChecksModel", name := "differs", desc := "(I)J" } : MethodName)) ∈ gW := gW_in (in3 (List.mem_of_getElem? (i := 182) rfl)) (by decide +kernel)
theorem k3_183 : (Cond.code ({ cls := "BookChecksModel", name := "differs", desc := "(I)J" } : MethodName) prog_10_method_13_code (2 : Nat) (Option.some ClassFile.FieldType.long)) ∈ gW := gW_in (in3 (List.mem_of_getElem? (i := 183) rfl)) (by decide +kernel)
theorem k3_184 : (Cond.methodLink "BookChecksLaw" (60 : Nat) ({ cls := "BookChecksModel", name := "waits", desc := "(II)I" } : MethodName)) ∈ gW := gW_in (in3 (List.mem_of_getElem? (i := 184) rfl)) (by decide +kernel)
theorem k3_185 : (Cond.instanceMethod ({ cls := "BookChecksModel", name := "waits", desc := "(II)I" } : MethodName)) ∈ gW := gW_in (in3 (List.mem_of_getElem? (i := 185) rfl)) (by decide +kernel)
theorem k3_186 : (Cond.selects "BookChecksModel" ({ cls := "BookChecksModel", name := "waits", desc := "(II)I" } : MethodName) ({ cls := "BookChecksModel", name := "waits", desc := "(II)I" } : MethodName)) ∈ gW := gW_in (in3 (List.mem_of_getElem? (i := 186) rfl)) (by decide +kernel)
theorem k3_187 : (Cond.code ({ cls := "BookChecksModel", name := "waits", desc := "(II)I" } : MethodName) prog_10_method_14_code (5 : Nat) (Option.some ClassFile.FieldType.int)) ∈ gW := gW_in (in3 (List.mem_of_getElem? (i := 187) rfl)) (by decide +kernel)
theorem k3_188 : (Cond.constantLong "BookChecksModel" (108 : Nat) (5 : Int64)) ∈ gW := gW_in (in3 (List.mem_of_getElem? (i := 188) rfl)) (by decide +kernel)
theorem k3_189 : (Cond.methodLink "BookChecksLaw" (64 : Nat) ({ cls := "BookChecksModel", name := "pageAt", desc := "(I)J" } : MethodName)) ∈ gW := gW_in (in3 (List.mem_of_getElem? (i := 189) rfl)) (by decide +kernel)
theorem k3_190 : (Cond.instanceMethod ({ cls := "BookChecksModel", name := "pageAt", desc := "(I)J" } : MethodName)) ∈ gW := gW_in (in3 (List.mem_of_getElem? (i := 190) rfl)) (by decide +kernel)
theorem k3_191 : (Cond.selects "BookChecksModel" ({ cls := "BookChecksModel", name := "pageAt", desc := "(I)J" } : MethodName) ({ cls := "BookChecksModel", name := "pageAt", desc := "(I)J" } : MethodName)) ∈ gW := gW_in (in3 (List.mem_of_getElem? (i := 191) rfl)) (by decide +kernel)
theorem k3_192 : (Cond.code ({ cls := "BookChecksModel", name := "pageAt", desc := "(I)J" } : MethodName) prog_10_method_15_code (2 : Nat) (Option.some ClassFile.FieldType.long)) ∈ gW := gW_in (in3 (List.mem_of_getElem? (i := 192) rfl)) (by decide +kernel)
theorem k3_193 : (Cond.methodLink "BookChecksLaw" (71 : Nat) ({ cls := "BookChecksModel", name := "balance", desc := "(I)J" } : MethodName)) ∈ gW := gW_in (in3 (List.mem_of_getElem? (i := 193) rfl)) (by decide +kernel)
theorem k3_194 : (Cond.instanceMethod ({ cls := "BookChecksModel", name := "balance", desc := "(I)J" } : MethodName)) ∈ gW := gW_in (in3 (List.mem_of_getElem? (i := 194) rfl)) (by decide +kernel)
theorem k3_195 : (Cond.selects "BookChecksModel" ({ cls := "BookChecksModel", name := "balance", desc := "(I)J" } : MethodName) ({ cls := "BookChecksModel", name := "balance", desc := "(I)J" } : MethodName)) ∈ gW := gW_in (in3 (List.mem_of_getElem? (i := 195) rfl)) (by decide +kernel)
theorem k3_196 : (Cond.code ({ cls := "BookChecksModel", name := "balance", desc := "(I)J" } : MethodName) prog_10_method_16_code (5 : Nat) (Option.some ClassFile.FieldType.long)) ∈ gW := gW_in (in3 (List.mem_of_getElem? (i := 196) rfl)) (by decide +kernel)
theorem k3_197 : (Cond.methodLink "BookChecksLaw" (76 : Nat) ({ cls := "BookChecksModel", name := "plant", desc := "(JI)I" } : MethodName)) ∈ gW := gW_in (in3 (List.mem_of_getElem? (i := 197) rfl)) (by decide +kernel)
theorem k3_198 : (Cond.instanceMethod ({ cls := "BookChecksModel", name := "plant", desc := "(JI)I" } : MethodName)) ∈ gW := gW_in (in3 (List.mem_of_getElem? (i := 198) rfl)) (by decide +kernel)
theorem k3_199 : (Cond.selects "BookChecksModel" ({ cls := "BookChecksModel", name := "plant", desc := "(JI)I" } : MethodName) ({ cls := "BookChecksModel", name := "plant", desc := "(JI)I" } : MethodName)) ∈ gW := gW_in (in3 (List.mem_of_getElem? (i := 199) rfl)) (by decide +kernel)
theorem k3_200 : (Cond.code ({ cls := "BookChecksModel", name := "plant", desc := "(JI)I" } : MethodName) prog_10_method_17_code (4 : Nat) (Option.some ClassFile.FieldType.int)) ∈ gW := gW_in (in3 (List.mem_of_getElem? (i := 200) rfl)) (by decide +kernel)
theorem k3_201 : (Cond.methodLink "BookChecksLaw" (81 : Nat) ({ cls := "BookChecksModel", name := "out", desc := "(IIJ)I" } : MethodName)) ∈ gW := gW_in (in3 (List.mem_of_getElem? (i := 201) rfl)) (by decide +kernel)
theorem k3_202 : (Cond.instanceMethod ({ cls := "BookChecksModel", name := "out", desc := "(IIJ)I" } : MethodName)) ∈ gW := gW_in (in3 (List.mem_of_getElem? (i := 202) rfl)) (by decide +kernel)
theorem k3_203 : (Cond.selects "BookChecksModel" ({ cls := "BookChecksModel", name := "out", desc := "(IIJ)I" } : MethodName) ({ cls := "BookChecksModel", name := "out", desc := "(IIJ)I" } : MethodName)) ∈ gW := gW_in (in3 (List.mem_of_getElem? (i := 203) rfl)) (by decide +kernel)
theorem k3_204 : (Cond.code ({ cls := "BookChecksModel", name := "out", desc := "(IIJ)I" } : MethodName) prog_10_method_19_code (5 : Nat) (Option.some ClassFile.FieldType.int)) ∈ gW := gW_in (in3 (List.mem_of_getElem? (i := 204) rfl)) (by decide +kernel)
theorem k3_205 : (Cond.methodLink "BookChecksModel" (113 : Nat) ({ cls := "BookChecksModel", name := "isPlant", desc := "(I)Z" } : MethodName)) ∈ gW := gW_in (in3 (List.mem_of_getElem? (i := 205) rfl)) (by decide +kernel)
theorem k3_207 : (Cond.instanceMethod ({ cls := "BookChecksModel", name := "isPlant", desc := "(I)Z" } : MethodName)) ∈ gW := gW_in (in3 (List.mem_of_getElem? (i := 207) rfl)) (by decide +kernel)
theorem k3_208 : (Cond.code ({ cls := "BookChecksModel", name := "isPlant", desc := "(I)Z" } : MethodName) prog_10_method_18_code (2 : Nat) (Option.some ClassFile.FieldType.boolean)) ∈ gW := gW_in (in3 (List.mem_of_getElem? (i := 208) rfl)) (by decide +kernel)
theorem k3_209 : (Cond.methodLink "BookChecksLaw" (85 : Nat) ({ cls := "BookChecksModel", name := "lacks", desc := "(I)J" } : MethodName)) ∈ gW := gW_in (in3 (List.mem_of_getElem? (i := 209) rfl)) (by decide +kernel)
theorem k3_210 : (Cond.instanceMethod ({ cls := "BookChecksModel", name := "lacks", desc := "(I)J" } : MethodName)) ∈ gW := gW_in (in3 (List.mem_of_getElem? (i := 210) rfl)) (by decide +kernel)
theorem k3_211 : (Cond.selects "BookChecksModel" ({ cls := "BookChecksModel", name := "lacks", desc := "(I)J" } : MethodName) ({ cls := "BookChecksModel", name := "lacks", desc := "(I)J" } : MethodName)) ∈ gW := gW_in (in3 (List.mem_of_getElem? (i := 211) rfl)) (by decide +kernel)
theorem k3_212 : (Cond.code ({ cls := "BookChecksModel", name := "lacks", desc := "(I)J" } : MethodName) prog_10_method_22_code (2 : Nat) (Option.some ClassFile.FieldType.long)) ∈ gW := gW_in (in3 (List.mem_of_getElem? (i := 212) rfl)) (by decide +kernel)
theorem k3_213 : (Cond.methodLink "BookChecksModel" (120 : Nat) ({ cls := "BookChecksModel", name := "lack", desc := "(I)J" } : MethodName)) ∈ gW := gW_in (in3 (List.mem_of_getElem? (i := 213) rfl)) (by decide +kernel)
theorem k3_215 : (Cond.instanceMethod ({ cls := "BookChecksModel", name := "lack", desc := "(I)J" } : MethodName)) ∈ gW := gW_in (in3 (List.mem_of_getElem? (i := 215) rfl)) (by decide +kernel)
theorem k3_216 : (Cond.code ({ cls := "BookChecksModel", name := "lack", desc := "(I)J" } : MethodName) prog_10_method_21_code (4 : Nat) (Option.some ClassFile.FieldType.long)) ∈ gW := gW_in (in3 (List.mem_of_getElem? (i := 216) rfl)) (by decide +kernel)
theorem k3_217 : (Cond.methodLink "BookChecksModel" (116 : Nat) ({ cls := "BookChecksModel", name := "ownIn", desc := "(II)J" } : MethodName)) ∈ gW := gW_in (in3 (List.mem_of_getElem? (i := 217) rfl)) (by decide +kernel)
theorem k3_219 : (Cond.instanceMethod ({ cls := "BookChecksModel", name := "ownIn", desc := "(II)J" } : MethodName)) ∈ gW := gW_in (in3 (List.mem_of_getElem? (i := 219) rfl)) (by decide +kernel)
theorem k3_220 : (Cond.code ({ cls := "BookChecksModel", name := "ownIn", desc := "(II)J" } : MethodName) prog_10_method_20_code (7 : Nat) (Option.some ClassFile.FieldType.long)) ∈ gW := gW_in (in3 (List.mem_of_getElem? (i := 220) rfl)) (by decide +kernel)
theorem k3_221 : (Cond.constantLong "BookChecksModel" (124 : Nat) (-1 : Int64)) ∈ gW := gW_in (in3 (List.mem_of_getElem? (i := 221) rfl)) (by decide +kernel)
theorem k3_222 : (Cond.methodLink "BookChecksLaw" (89 : Nat) ({ cls := "BookChecksModel", name := "nowhere", desc := "(II)I" } : MethodName)) ∈ gW := gW_in (in3 (List.mem_of_getElem? (i := 222) rfl)) (by decide +kernel)
theorem k3_223 : (Cond.instanceMethod ({ cls := "BookChecksModel", name := "nowhere", desc := "(II)I" } : MethodName)) ∈ gW := gW_in (in3 (List.mem_of_getElem? (i := 223) rfl)) (by decide +kernel)
theorem k3_224 : (Cond.selects "BookChecksModel" ({ cls := "BookChecksModel", name := "nowhere", desc := "(II)I" } : MethodName) ({ cls := "BookChecksModel", name := "nowhere", desc := "(II)I" } : MethodName)) ∈ gW := gW_in (in3 (List.mem_of_getElem? (i := 224) rfl)) (by decide +kernel)
theorem k3_225 : (Cond.code ({ cls := "BookChecksModel", name := "nowhere", desc := "(II)I" } : MethodName) prog_10_method_24_code (7 : Nat) (Option.some ClassFile.FieldType.int)) ∈ gW := gW_in (in3 (List.mem_of_getElem? (i := 225) rfl)) (by decide +kernel)
theorem k3_226 : (Cond.methodLink "BookChecksModel" (126 : Nat) ({ cls := "BookChecksModel", name := "ones", desc := "(I)I" } : MethodName)) ∈ gW := gW_in (in3 (List.mem_of_getElem? (i := 226) rfl)) (by decide +kernel)
theorem k3_227 : (Cond.static ({ cls := "BookChecksModel", name := "ones", desc := "(I)I" } : MethodName)) ∈ gW := gW_in (in3 (List.mem_of_getElem? (i := 227) rfl)) (by decide +kernel)
theorem k3_228 : (Cond.code ({ cls := "BookChecksModel", name := "ones", desc := "(I)I" } : MethodName) prog_10_method_23_code (3 : Nat) (Option.some ClassFile.FieldType.int)) ∈ gW := gW_in (in3 (List.mem_of_getElem? (i := 228) rfl)) (by decide +kernel)
theorem k3_229 : (Cond.methodLink "BookChecksLaw" (94 : Nat) ({ cls := "BookChecksModel", name := "risk", desc := "(III)Z" } : MethodName)) ∈ gW := gW_in (in3 (List.mem_of_getElem? (i := 229) rfl)) (by decide +kernel)
theorem k3_230 : (Cond.instanceMethod ({ cls := "BookChecksModel", name := "risk", desc := "(III)Z" } : MethodName)) ∈ gW := gW_in (in3 (List.mem_of_getElem? (i := 230) rfl)) (by decide +kernel)
theorem k3_231 : (Cond.selects "BookChecksModel" ({ cls := "BookChecksModel", name := "risk", desc := "(III)Z" } : MethodName) ({ cls := "BookChecksModel", name := "risk", desc := "(III)Z" } : MethodName)) ∈ gW := gW_in (in3 (List.mem_of_getElem? (i := 231) rfl)) (by decide +kernel)
theorem k3_232 : (Cond.code ({ cls := "BookChecksModel", name := "risk", desc := "(III)Z" } : MethodName) prog_10_method_25_code (4 : Nat) (Option.some ClassFile.FieldType.boolean)) ∈ gW := gW_in (in3 (List.mem_of_getElem? (i := 232) rfl)) (by decide +kernel)
theorem k3_233 : (Cond.methodLink "BookChecksLaw" (98 : Nat) ({ cls := "BookChecksModel", name := "draw", desc := "(I)I" } : MethodName)) ∈ gW := gW_in (in3 (List.mem_of_getElem? (i := 233) rfl)) (by decide +kernel)
theorem k3_234 : (Cond.instanceMethod ({ cls := "BookChecksModel", name := "draw", desc := "(I)I" } : MethodName)) ∈ gW := gW_in (in3 (List.mem_of_getElem? (i := 234) rfl)) (by decide +kernel)
theorem k3_235 : (Cond.selects "BookChecksModel" ({ cls := "BookChecksModel", name := "draw", desc := "(I)I" } : MethodName) ({ cls := "BookChecksModel", name := "draw", desc := "(I)I" } : MethodName)) ∈ gW := gW_in (in3 (List.mem_of_getElem? (i := 235) rfl)) (by decide +kernel)
theorem k3_236 : (Cond.code ({ cls := "BookChecksModel", name := "draw", desc := "(I)I" } : MethodName) prog_10_method_27_code (3 : Nat) (Option.some ClassFile.FieldType.int)) ∈ gW := gW_in (in3 (List.mem_of_getElem? (i := 236) rfl)) (by decide +kernel)
theorem k3_237 : (Cond.methodLink "BookChecksModel" (137 : Nat) ({ cls := "BookChecksModel", name := "tryDraw", desc := "(JI)V" } : MethodName)) ∈ gW := gW_in (in3 (List.mem_of_getElem? (i := 237) rfl)) (by decide +kernel)
theorem k3_239 : (Cond.instanceMethod ({ cls := "BookChecksModel", name := "tryDraw", desc := "(JI)V" } : MethodName)) ∈ gW := gW_in (in3 (List.mem_of_getElem? (i := 239) rfl)) (by decide +kernel)
theorem k4_0 : (Cond.code ({ cls := "BookChecksModel", name := "tryDraw", desc := "(JI)V" } : MethodName) prog_10_method_26_code (10 : Nat) (Option.none : Option ClassFile.FieldType)) ∈ gW := gW_in (in4 (List.mem_of_getElem? (i := 0) rfl)) (by decide +kernel)
theorem k4_1 : (Cond.constantLong "BookChecksModel" (133 : Nat) (6364136223846793005 : Int64)) ∈ gW := gW_in (in4 (List.mem_of_getElem? (i := 1) rfl)) (by decide +kernel)
theorem k4_2 : (Cond.constantLong "BookChecksModel" (135 : Nat) (1442695040888963407 : Int64)) ∈ gW := gW_in (in4 (List.mem_of_getElem? (i := 2) rfl)) (by decide +kernel)
theorem k4_3 : (Cond.methodLink "BookChecksLaw" (102 : Nat) ({ cls := "BookChecksModel", name := "drawn", desc := "(I)I" } : MethodName)) ∈ gW := gW_in (in4 (List.mem_of_getElem? (i := 3) rfl)) (by decide +kernel)
theorem k4_4 : (Cond.instanceMethod ({ cls := "BookChecksModel", name := "drawn", desc := "(I)I" } : MethodName)) ∈ gW := gW_in (in4 (List.mem_of_getElem? (i := 4) rfl)) (by decide +kernel)
theorem k4_5 : (Cond.selects "BookChecksModel" ({ cls := "BookChecksModel", name := "drawn", desc := "(I)I" } : MethodName) ({ cls := "BookChecksModel", name := "drawn", desc := "(I)I" } : MethodName)) ∈ gW := gW_in (in4 (List.mem_of_getElem? (i := 5) rfl)) (by decide +kernel)
theorem k4_6 : (Cond.code ({ cls := "BookChecksModel", name := "drawn", desc := "(I)I" } : MethodName) prog_10_method_28_code (2 : Nat) (Option.some ClassFile.FieldType.int)) ∈ gW := gW_in (in4 (List.mem_of_getElem? (i := 6) rfl)) (by decide +kernel)
theorem k4_7 : (Cond.methodLink "BookChecksLaw" (107 : Nat) ({ cls := "BookChecksModel", name := "same", desc := "(J)Z" } : MethodName)) ∈ gW := gW_in (in4 (List.mem_of_getElem? (i := 7) rfl)) (by decide +kernel)
theorem k4_8 : (Cond.instanceMethod ({ cls := "BookChecksModel", name := "same", desc := "(J)Z" } : MethodName)) ∈ gW := gW_in (in4 (List.mem_of_getElem? (i := 8) rfl)) (by decide +kernel)
theorem k4_9 : (Cond.selects "BookChecksModel" ({ cls := "BookChecksModel", name := "same", desc := "(J)Z" } : MethodName) ({ cls := "BookChecksModel", name := "same", desc := "(J)Z" } : MethodName)) ∈ gW := gW_in (in4 (List.mem_of_getElem? (i := 9) rfl)) (by decide +kernel)
theorem k4_10 : (Cond.code ({ cls := "BookChecksModel", name := "same", desc := "(J)Z" } : MethodName) prog_10_method_29_code (5 : Nat) (Option.some ClassFile.FieldType.boolean)) ∈ gW := gW_in (in4 (List.mem_of_getElem? (i := 10) rfl)) (by decide +kernel)
theorem k4_11 : (Cond.methodLink "BookChecksLaw" (112 : Nat) ({ cls := "BookChecksModel", name := "missed", desc := "(III)J" } : MethodName)) ∈ gW := gW_in (in4 (List.mem_of_getElem? (i := 11) rfl)) (by decide +kernel)
theorem k4_12 : (Cond.instanceMethod ({ cls := "BookChecksModel", name := "missed", desc := "(III)J" } : MethodName)) ∈ gW := gW_in (in4 (List.mem_of_getElem? (i := 12) rfl)) (by decide +kernel)
theorem k4_13 : (Cond.selects "BookChecksModel" ({ cls := "BookChecksModel", name := "missed", desc := "(III)J" } : MethodName) ({ cls := "BookChecksModel", name := "missed", desc := "(III)J" } : MethodName)) ∈ gW := gW_in (in4 (List.mem_of_getElem? (i := 13) rfl)) (by decide +kernel)
theorem k4_14 : (Cond.code ({ cls := "BookChecksModel", name := "missed", desc := "(III)J" } : MethodName) prog_10_method_30_code (15 : Nat) (Option.some ClassFile.FieldType.long)) ∈ gW := gW_in (in4 (List.mem_of_getElem? (i := 14) rfl)) (by decide +kernel)
theorem k4_15 : (Cond.methodLink "BookChecksLaw" (116 : Nat) ({ cls := "BookChecksModel", name := "camera", desc := "(II)I" } : MethodName)) ∈ gW := gW_in (in4 (List.mem_of_getElem? (i := 15) rfl)) (by decide +kernel)
theorem k4_16 : (Cond.instanceMethod ({ cls := "BookChecksModel", name := "camera", desc := "(II)I" } : MethodName)) ∈ gW := gW_in (in4 (List.mem_of_getElem? (i := 16) rfl)) (by decide +kernel)
theorem k4_17 : (Cond.selects "BookChecksModel" ({ cls := "BookChecksModel", name := "camera", desc := "(II)I" } : MethodName) ({ cls := "BookChecksModel", name := "camera", desc := "(II)I" } : MethodName)) ∈ gW := gW_in (in4 (List.mem_of_getElem? (i := 17) rfl)) (by decide +kernel)
theorem k4_18 : (Cond.code ({ cls := "BookChecksModel", name := "camera", desc := "(II)I" } : MethodName) prog_10_method_31_code (10 : Nat) (Option.some ClassFile.FieldType.int)) ∈ gW := gW_in (in4 (List.mem_of_getElem? (i := 18) rfl)) (by decide +kernel)
theorem k4_19 : (Cond.constantLong "BookChecksModel" (147 : Nat) (20 : Int64)) ∈ gW := gW_in (in4 (List.mem_of_getElem? (i := 19) rfl)) (by decide +kernel)
theorem k4_20 : (Cond.constantLong "BookChecksModel" (149 : Nat) (99999 : Int64)) ∈ gW := gW_in (in4 (List.mem_of_getElem? (i := 20) rfl)) (by decide +kernel)
theorem k4_21 : (Cond.methodLink "BookChecksLaw" (121 : Nat) ({ cls := "BookChecksModel", name := "act", desc := "(III)I" } : MethodName)) ∈ gW := gW_in (in4 (List.mem_of_getElem? (i := 21) rfl)) (by decide +kernel)
theorem k4_22 : (Cond.instanceMethod ({ cls := "BookChecksModel", name := "act", desc := "(III)I" } : MethodName)) ∈ gW := gW_in (in4 (List.mem_of_getElem? (i := 22) rfl)) (by decide +kernel)
theorem k4_23 : (Cond.selects "BookChecksModel" ({ cls := "BookChecksModel", name := "act", desc := "(III)I" } : MethodName) ({ cls := "BookChecksModel", name := "act", desc := "(III)I" } : MethodName)) ∈ gW := gW_in (in4 (List.mem_of_getElem? (i := 23) rfl)) (by decide +kernel)
theorem k4_24 : (Cond.code ({ cls := "BookChecksModel", name := "act", desc := "(III)I" } : MethodName) prog_10_method_33_code (5 : Nat) (Option.some ClassFile.FieldType.int)) ∈ gW := gW_in (in4 (List.mem_of_getElem? (i := 24) rfl)) (by decide +kernel)
theorem k4_25 : (Cond.methodLink "BookChecksModel" (151 : Nat) ({ cls := "BookChecksModel", name := "next", desc := "(II)I" } : MethodName)) ∈ gW := gW_in (in4 (List.mem_of_getElem? (i := 25) rfl)) (by decide +kernel)
theorem k4_26 : (Cond.static ({ cls := "BookChecksModel", name := "next", desc := "(II)I" } : MethodName)) ∈ gW := gW_in (in4 (List.mem_of_getElem? (i := 26) rfl)) (by decide +kernel)
theorem k4_27 : (Cond.code ({ cls := "BookChecksModel", name := "next", desc := "(II)I" } : MethodName) prog_10_method_32_code (2 : Nat) (Option.some ClassFile.FieldType.int)) ∈ gW := gW_in (in4 (List.mem_of_getElem? (i := 27) rfl)) (by decide +kernel)
theorem k4_28 : (Cond.methodLink "BookChecksLaw" (125 : Nat) ({ cls := "BookChecksModel", name := "state", desc := "(I)I" } : MethodName)) ∈ gW := gW_in (in4 (List.mem_of_getElem? (i := 28) rfl)) (by decide +kernel)
theorem k4_29 : (Cond.instanceMethod ({ cls := "BookChecksModel", name := "state", desc := "(I)I" } : MethodName)) ∈ gW := gW_in (in4 (List.mem_of_getElem? (i := 29) rfl)) (by decide +kernel)
theorem k4_30 : (Cond.selects "BookChecksModel" ({ cls := "BookChecksModel", name := "state", desc := "(I)I" } : MethodName) ({ cls := "BookChecksModel", name := "state", desc := "(I)I" } : MethodName)) ∈ gW := gW_in (in4 (List.mem_of_getElem? (i := 30) rfl)) (by decide +kernel)
theorem k4_31 : (Cond.code ({ cls := "BookChecksModel", name := "state", desc := "(I)I" } : MethodName) prog_10_method_34_code (2 : Nat) (Option.some ClassFile.FieldType.int)) ∈ gW := gW_in (in4 (List.mem_of_getElem? (i := 31) rfl)) (by decide +kernel)
theorem k4_32 : (Cond.methodLink "BookChecksLaw" (129 : Nat) ({ cls := "BookChecksModel", name := "repeated", desc := "(I)I" } : MethodName)) ∈ gW := gW_in (in4 (List.mem_of_getElem? (i := 32) rfl)) (by decide +kernel)
theorem k4_33 : (Cond.instanceMethod ({ cls := "BookChecksModel", name := "repeated", desc := "(I)I" } : MethodName)) ∈ gW := gW_in (in4 (List.mem_of_getElem? (i := 33) rfl)) (by decide +kernel)
theorem k4_34 : (Cond.selects "BookChecksModel" ({ cls := "BookChecksModel", name := "repeated", desc := "(I)I" } : MethodName) ({ cls := "BookChecksModel", name := "repeated", desc := "(I)I" } : MethodName)) ∈ gW := gW_in (in4 (List.mem_of_getElem? (i := 34) rfl)) (by decide +kernel)
theorem k4_35 : (Cond.code ({ cls := "BookChecksModel", name := "repeated", desc := "(I)I" } : MethodName) prog_10_method_35_code (2 : Nat) (Option.some ClassFile.FieldType.int)) ∈ gW := gW_in (in4 (List.mem_of_getElem? (i := 35) rfl)) (by decide +kernel)
theorem k4_36 : (Cond.constantLong "BookChecksLaw" (27 : Nat) (4294967295 : Int64)) ∈ gW := gW_in (in4 (List.mem_of_getElem? (i := 36) rfl)) (by decide +kernel)
theorem ks_Jo_partAll : Cond.selects "BookChecks$Joins" ⟨"BookChecks$Joins", "partAll", "()V"⟩ ⟨"BookChecks$Joins", "partAll", "()V"⟩ ∈ gW := gW_sel (List.mem_of_getElem? (i := 0) rfl) (by decide +kernel)
theorem ks_Jo_joinBest : Cond.selects "BookChecks$Joins" ⟨"BookChecks$Joins", "joinBest", "(LBookChecks$Book;LBookChecks$Book;)Z"⟩ ⟨"BookChecks$Joins", "joinBest", "(LBookChecks$Book;LBookChecks$Book;)Z"⟩ ∈ gW := gW_sel (List.mem_of_getElem? (i := 1) rfl) (by decide +kernel)
theorem ks_Pl_ownKind : Cond.selects "BookChecks$Plants" ⟨"BookChecks$Plants", "ownKind", "(I)I"⟩ ⟨"BookChecks$Plants", "ownKind", "(I)I"⟩ ∈ gW := gW_sel (List.mem_of_getElem? (i := 2) rfl) (by decide +kernel)
theorem ks_Pl_gramsOfSet : Cond.selects "BookChecks$Plants" ⟨"BookChecks$Plants", "gramsOfSet", "(II)J"⟩ ⟨"BookChecks$Plants", "gramsOfSet", "(II)J"⟩ ∈ gW := gW_sel (List.mem_of_getElem? (i := 3) rfl) (by decide +kernel)
theorem ks_Ri_weighAll : Cond.selects "BookChecks$Risks" ⟨"BookChecks$Risks", "weighAll", "(LBookChecks$Book;)I"⟩ ⟨"BookChecks$Risks", "weighAll", "(LBookChecks$Book;)I"⟩ ∈ gW := gW_sel (List.mem_of_getElem? (i := 4) rfl) (by decide +kernel)
theorem ks_Ri_pageOver : Cond.selects "BookChecks$Risks" ⟨"BookChecks$Risks", "pageOver", "(II)I"⟩ ⟨"BookChecks$Risks", "pageOver", "(II)I"⟩ ∈ gW := gW_sel (List.mem_of_getElem? (i := 5) rfl) (by decide +kernel)
theorem ks_Wa_sortMinutes : Cond.selects "BookChecks$Watch" ⟨"BookChecks$Watch", "sortMinutes", "(LBookChecks$Book;I)I"⟩ ⟨"BookChecks$Watch", "sortMinutes", "(LBookChecks$Book;I)I"⟩ ∈ gW := gW_sel (List.mem_of_getElem? (i := 6) rfl) (by decide +kernel)
theorem ks_Wa_insert : Cond.selects "BookChecks$Watch" ⟨"BookChecks$Watch", "insert", "(IJ)V"⟩ ⟨"BookChecks$Watch", "insert", "(IJ)V"⟩ ∈ gW := gW_sel (List.mem_of_getElem? (i := 7) rfl) (by decide +kernel)
theorem ks_Mo_tell : Cond.selects "BookChecksModel" ⟨"BookChecksModel", "tell", "(IIIIJ)I"⟩ ⟨"BookChecksModel", "tell", "(IIIIJ)I"⟩ ∈ gW := gW_sel (List.mem_of_getElem? (i := 9) rfl) (by decide +kernel)
theorem ks_Mo_pointsOf : Cond.selects "BookChecksModel" ⟨"BookChecksModel", "pointsOf", "(II)I"⟩ ⟨"BookChecksModel", "pointsOf", "(II)I"⟩ ∈ gW := gW_sel (List.mem_of_getElem? (i := 10) rfl) (by decide +kernel)
theorem ks_Mo_isPage : Cond.selects "BookChecksModel" ⟨"BookChecksModel", "isPage", "(I)Z"⟩ ⟨"BookChecksModel", "isPage", "(I)Z"⟩ ∈ gW := gW_sel (List.mem_of_getElem? (i := 11) rfl) (by decide +kernel)
theorem ks_Mo_isPlant : Cond.selects "BookChecksModel" ⟨"BookChecksModel", "isPlant", "(I)Z"⟩ ⟨"BookChecksModel", "isPlant", "(I)Z"⟩ ∈ gW := gW_sel (List.mem_of_getElem? (i := 12) rfl) (by decide +kernel)
theorem ks_Mo_lack : Cond.selects "BookChecksModel" ⟨"BookChecksModel", "lack", "(I)J"⟩ ⟨"BookChecksModel", "lack", "(I)J"⟩ ∈ gW := gW_sel (List.mem_of_getElem? (i := 13) rfl) (by decide +kernel)
theorem ks_Mo_ownIn : Cond.selects "BookChecksModel" ⟨"BookChecksModel", "ownIn", "(II)J"⟩ ⟨"BookChecksModel", "ownIn", "(II)J"⟩ ∈ gW := gW_sel (List.mem_of_getElem? (i := 14) rfl) (by decide +kernel)
theorem ks_Mo_tryDraw : Cond.selects "BookChecksModel" ⟨"BookChecksModel", "tryDraw", "(JI)V"⟩ ⟨"BookChecksModel", "tryDraw", "(JI)V"⟩ ∈ gW := gW_sel (List.mem_of_getElem? (i := 15) rfl) (by decide +kernel)
theorem nm_B : ∀ a, a < 10 → ∀ b, b < 10 → a ≠ b → (F_B a).2.1 ≠ (F_B b).2.1 := by decide +kernel
theorem tk_B : ∀ k, k < 10 → parseFieldDescriptor (F_B k).2.2.1 = some (t_B k) := by decide +kernel
theorem dv_B : ∀ j, j < 10 → defaultValue (t_B j) = vp_V [.long (lN 0), .null, .null, .null, .null, .null, .null, .null, .null, .null] j := by decide +kernel
theorem iw_B : ∀ w ∈ u_ws R_B F_B 10, w ∈ gW := by
  intro w hw
  have hw : w ∈ [u_lay R_B F_B 0, u_lay R_B F_B 1, u_lay R_B F_B 2, u_lay R_B F_B 3, u_lay R_B F_B 4, u_lay R_B F_B 5, u_lay R_B F_B 6, u_lay R_B F_B 7, u_lay R_B F_B 8, u_lay R_B F_B 9] := hw
  simp only [List.mem_cons, List.not_mem_nil, or_false] at hw
  rcases hw with rfl | rfl | rfl | rfl | rfl | rfl | rfl | rfl | rfl | rfl
  · exact k1_167
  · exact k1_169
  · exact k1_171
  · exact k1_173
  · exact k1_175
  · exact k1_177
  · exact k1_179
  · exact k1_181
  · exact k1_183
  · exact k1_185
theorem nm_Bk : ∀ a, a < 5 → ∀ b, b < 5 → a ≠ b → (F_Bk a).2.1 ≠ (F_Bk b).2.1 := by decide +kernel
theorem tk_Bk : ∀ k, k < 5 → parseFieldDescriptor (F_Bk k).2.2.1 = some (t_Bk k) := by decide +kernel
theorem dv_Bk : ∀ j, j < 5 → defaultValue (t_Bk j) = vp_V [.null, .null, .null, .null, .int (nI 0)] j := by decide +kernel
theorem iw_Bk : ∀ w ∈ u_ws R_Bk F_Bk 5, w ∈ gW := by
  intro w hw
  have hw : w ∈ [u_lay R_Bk F_Bk 0, u_lay R_Bk F_Bk 1, u_lay R_Bk F_Bk 2, u_lay R_Bk F_Bk 3, u_lay R_Bk F_Bk 4] := hw
  simp only [List.mem_cons, List.not_mem_nil, or_false] at hw
  rcases hw with rfl | rfl | rfl | rfl | rfl
  · exact k1_43
  · exact k1_45
  · exact k1_47
  · exact k1_49
  · exact k1_51
theorem nm_Jo : ∀ a, a < 2 → ∀ b, b < 2 → a ≠ b → (F_Jo a).2.1 ≠ (F_Jo b).2.1 := by decide +kernel
theorem tk_Jo : ∀ k, k < 2 → parseFieldDescriptor (F_Jo k).2.2.1 = some (t_Jo k) := by decide +kernel
theorem dv_Jo : ∀ j, j < 2 → defaultValue (t_Jo j) = vp_V [.null, .null] j := by decide +kernel
theorem iw_Jo : ∀ w ∈ u_ws R_Jo F_Jo 2, w ∈ gW := by
  intro w hw
  have hw : w ∈ [u_lay R_Jo F_Jo 0, u_lay R_Jo F_Jo 1] := hw
  simp only [List.mem_cons, List.not_mem_nil, or_false] at hw
  rcases hw with rfl | rfl
  · exact k1_68
  · exact k1_70
theorem nm_Pl : ∀ a, a < 6 → ∀ b, b < 6 → a ≠ b → (F_Pl a).2.1 ≠ (F_Pl b).2.1 := by decide +kernel
theorem tk_Pl : ∀ k, k < 6 → parseFieldDescriptor (F_Pl k).2.2.1 = some (t_Pl k) := by decide +kernel
theorem dv_Pl : ∀ j, j < 6 → defaultValue (t_Pl j) = vp_V [.null, .null, .null, .null, .null, .int (nI 0)] j := by decide +kernel
theorem iw_Pl : ∀ w ∈ u_ws R_Pl F_Pl 6, w ∈ gW := by
  intro w hw
  have hw : w ∈ [u_lay R_Pl F_Pl 0, u_lay R_Pl F_Pl 1, u_lay R_Pl F_Pl 2, u_lay R_Pl F_Pl 3, u_lay R_Pl F_Pl 4, u_lay R_Pl F_Pl 5] := hw
  simp only [List.mem_cons, List.not_mem_nil, or_false] at hw
  rcases hw with rfl | rfl | rfl | rfl | rfl | rfl
  · exact k1_85
  · exact k1_87
  · exact k1_89
  · exact k1_91
  · exact k1_93
  · exact k1_95
theorem nm_Ri : ∀ a, a < 2 → ∀ b, b < 2 → a ≠ b → (F_Ri a).2.1 ≠ (F_Ri b).2.1 := by decide +kernel
theorem tk_Ri : ∀ k, k < 2 → parseFieldDescriptor (F_Ri k).2.2.1 = some (t_Ri k) := by decide +kernel
theorem dv_Ri : ∀ j, j < 2 → defaultValue (t_Ri j) = vp_V [.null, .null] j := by decide +kernel
theorem iw_Ri : ∀ w ∈ u_ws R_Ri F_Ri 2, w ∈ gW := by
  intro w hw
  have hw : w ∈ [u_lay R_Ri F_Ri 0, u_lay R_Ri F_Ri 1] := hw
  simp only [List.mem_cons, List.not_mem_nil, or_false] at hw
  rcases hw with rfl | rfl
  · exact k1_106
  · exact k1_108
theorem nm_Ro : ∀ a, a < 3 → ∀ b, b < 3 → a ≠ b → (F_Ro a).2.1 ≠ (F_Ro b).2.1 := by decide +kernel
theorem tk_Ro : ∀ k, k < 3 → parseFieldDescriptor (F_Ro k).2.2.1 = some (t_Ro k) := by decide +kernel
theorem dv_Ro : ∀ j, j < 3 → defaultValue (t_Ro j) = vp_V [.null, .int (nI 0), .int (nI 0)] j := by decide +kernel
theorem iw_Ro : ∀ w ∈ u_ws R_Ro F_Ro 3, w ∈ gW := by
  intro w hw
  have hw : w ∈ [u_lay R_Ro F_Ro 0, u_lay R_Ro F_Ro 1, u_lay R_Ro F_Ro 2] := hw
  simp only [List.mem_cons, List.not_mem_nil, or_false] at hw
  rcases hw with rfl | rfl | rfl
  · exact k1_122
  · exact k1_124
  · exact k1_126
theorem nm_Wa : ∀ a, a < 1 → ∀ b, b < 1 → a ≠ b → (F_Wa a).2.1 ≠ (F_Wa b).2.1 := by decide +kernel
theorem tk_Wa : ∀ k, k < 1 → parseFieldDescriptor (F_Wa k).2.2.1 = some (t_Wa k) := by decide +kernel
theorem dv_Wa : ∀ j, j < 1 → defaultValue (t_Wa j) = vp_V [.null] j := by decide +kernel
theorem iw_Wa : ∀ w ∈ u_ws R_Wa F_Wa 1, w ∈ gW := by
  intro w hw
  have hw : w ∈ [u_lay R_Wa F_Wa 0] := hw
  simp only [List.mem_cons, List.not_mem_nil, or_false] at hw
  rcases hw with rfl
  · exact k1_136
theorem nm_Ac : ∀ a, a < 3 → ∀ b, b < 3 → a ≠ b → (F_Ac a).2.1 ≠ (F_Ac b).2.1 := by decide +kernel
theorem tk_Ac : ∀ k, k < 3 → parseFieldDescriptor (F_Ac k).2.2.1 = some (t_Ac k) := by decide +kernel
theorem dv_Ac : ∀ j, j < 3 → defaultValue (t_Ac j) = vp_V [.null, .null, .null] j := by decide +kernel
theorem iw_Ac : ∀ w ∈ u_ws R_Ac F_Ac 3, w ∈ gW := by
  intro w hw
  have hw : w ∈ [u_lay R_Ac F_Ac 0, u_lay R_Ac F_Ac 1, u_lay R_Ac F_Ac 2] := hw
  simp only [List.mem_cons, List.not_mem_nil, or_false] at hw
  rcases hw with rfl | rfl | rfl
  · exact k1_150
  · exact k1_152
  · exact k1_154
theorem nm_Mo : ∀ a, a < 27 → ∀ b, b < 27 → a ≠ b → (F_Mo a).2.1 ≠ (F_Mo b).2.1 := by decide +kernel
theorem tk_Mo : ∀ k, k < 27 → parseFieldDescriptor (F_Mo k).2.2.1 = some (t_Mo k) := by decide +kernel
theorem dv_Mo : ∀ j, j < 27 → defaultValue (t_Mo j) = vp_V [.int (nI 0), .long (lN 0), .null, .null, .null, .null, .null, .null, .null, .int (nI 0), .null, .null, .null, .null, .null, .null, .int (nI 0), .int (nI 0), .null, .int (nI 0), .null, .null, .null, .null, .null, .null, .null] j := by decide +kernel
theorem iw_Mo : ∀ w ∈ u_ws R_Mo F_Mo 27, w ∈ gW := by
  intro w hw
  have hw : w ∈ [u_lay R_Mo F_Mo 0, u_lay R_Mo F_Mo 1, u_lay R_Mo F_Mo 2, u_lay R_Mo F_Mo 3, u_lay R_Mo F_Mo 4, u_lay R_Mo F_Mo 5, u_lay R_Mo F_Mo 6, u_lay R_Mo F_Mo 7, u_lay R_Mo F_Mo 8, u_lay R_Mo F_Mo 9, u_lay R_Mo F_Mo 10, u_lay R_Mo F_Mo 11, u_lay R_Mo F_Mo 12, u_lay R_Mo F_Mo 13, u_lay R_Mo F_Mo 14, u_lay R_Mo F_Mo 15, u_lay R_Mo F_Mo 16, u_lay R_Mo F_Mo 17, u_lay R_Mo F_Mo 18, u_lay R_Mo F_Mo 19, u_lay R_Mo F_Mo 20, u_lay R_Mo F_Mo 21, u_lay R_Mo F_Mo 22, u_lay R_Mo F_Mo 23, u_lay R_Mo F_Mo 24, u_lay R_Mo F_Mo 25, u_lay R_Mo F_Mo 26] := hw
  simp only [List.mem_cons, List.not_mem_nil, or_false] at hw
  rcases hw with rfl | rfl | rfl | rfl | rfl | rfl | rfl | rfl | rfl | rfl | rfl | rfl | rfl | rfl | rfl | rfl | rfl | rfl | rfl | rfl | rfl | rfl | rfl | rfl | rfl | rfl | rfl
  · exact k3_79
  · exact k3_81
  · exact k3_83
  · exact k3_85
  · exact k3_87
  · exact k3_89
  · exact k3_91
  · exact k3_93
  · exact k3_95
  · exact k3_97
  · exact k3_99
  · exact k3_101
  · exact k3_103
  · exact k3_105
  · exact k3_107
  · exact k3_109
  · exact k3_111
  · exact k3_113
  · exact k3_115
  · exact k3_117
  · exact k3_119
  · exact k3_121
  · exact k3_123
  · exact k3_125
  · exact k3_127
  · exact k3_129
  · exact k3_131
theorem kc_B_init : Cond.code y_B_init b_B_init 3 none ∈ gW := k1_20
def ws_B_init : List Cond := Cond.code y_B_init b_B_init 3 none :: gW
theorem kc_B_page : Cond.code y_B_page b_B_page 6 (some .int) ∈ gW := k1_191
def ws_B_page : List Cond := Cond.code y_B_page b_B_page 6 (some .int) :: gW
theorem kc_B_sale : Cond.code y_B_sale b_B_sale 6 (some .int) ∈ gW := k1_213
def ws_B_sale : List Cond := Cond.code y_B_sale b_B_sale 6 (some .int) :: gW
theorem kc_B_run : Cond.code y_B_run b_B_run 1 (some .int) ∈ gW := k1_217
def ws_B_run : List Cond := Cond.code y_B_run b_B_run 1 (some .int) :: gW
theorem kc_B_pair : Cond.code y_B_pair b_B_pair 2 (some .int) ∈ gW := k2_10
def ws_B_pair : List Cond := Cond.code y_B_pair b_B_pair 2 (some .int) :: gW
theorem kc_B_points : Cond.code y_B_points b_B_points 3 (some .int) ∈ gW := k2_18
def ws_B_points : List Cond := Cond.code y_B_points b_B_points 3 (some .int) :: gW
theorem kc_B_differs : Cond.code y_B_differs b_B_differs 3 (some .long) ∈ gW := k2_23
def ws_B_differs : List Cond := Cond.code y_B_differs b_B_differs 3 (some .long) :: gW
theorem kc_B_waits : Cond.code y_B_waits b_B_waits 3 (some .int) ∈ gW := k2_31
def ws_B_waits : List Cond := Cond.code y_B_waits b_B_waits 3 (some .int) :: gW
theorem kc_B_pageAt : Cond.code y_B_pageAt b_B_pageAt 2 (some .long) ∈ gW := k2_218
def ws_B_pageAt : List Cond := Cond.code y_B_pageAt b_B_pageAt 2 (some .long) :: gW
theorem kc_B_balance : Cond.code y_B_balance b_B_balance 2 (some .long) ∈ gW := k2_40
def ws_B_balance : List Cond := Cond.code y_B_balance b_B_balance 2 (some .long) :: gW
theorem kc_B_plant : Cond.code y_B_plant b_B_plant 4 (some .int) ∈ gW := k2_48
def ws_B_plant : List Cond := Cond.code y_B_plant b_B_plant 4 (some .int) :: gW
theorem kc_B_out : Cond.code y_B_out b_B_out 5 (some .int) ∈ gW := k2_58
def ws_B_out : List Cond := Cond.code y_B_out b_B_out 5 (some .int) :: gW
theorem kc_B_lacks : Cond.code y_B_lacks b_B_lacks 2 (some .long) ∈ gW := k2_71
def ws_B_lacks : List Cond := Cond.code y_B_lacks b_B_lacks 2 (some .long) :: gW
theorem kc_B_nowhere : Cond.code y_B_nowhere b_B_nowhere 3 (some .int) ∈ gW := k2_90
def ws_B_nowhere : List Cond := Cond.code y_B_nowhere b_B_nowhere 3 (some .int) :: gW
theorem kc_B_risk : Cond.code y_B_risk b_B_risk 4 (some .boolean) ∈ gW := k2_111
def ws_B_risk : List Cond := Cond.code y_B_risk b_B_risk 4 (some .boolean) :: gW
theorem kc_B_draw : Cond.code y_B_draw b_B_draw 2 (some .int) ∈ gW := k2_120
def ws_B_draw : List Cond := Cond.code y_B_draw b_B_draw 2 (some .int) :: gW
theorem kc_B_drawn : Cond.code y_B_drawn b_B_drawn 2 (some .int) ∈ gW := k2_146
def ws_B_drawn : List Cond := Cond.code y_B_drawn b_B_drawn 2 (some .int) :: gW
theorem kc_B_same : Cond.code y_B_same b_B_same 3 (some .boolean) ∈ gW := k2_154
def ws_B_same : List Cond := Cond.code y_B_same b_B_same 3 (some .boolean) :: gW
theorem kc_B_missed : Cond.code y_B_missed b_B_missed 13 (some .long) ∈ gW := k2_162
def ws_B_missed : List Cond := Cond.code y_B_missed b_B_missed 13 (some .long) :: gW
theorem kc_B_camera : Cond.code y_B_camera b_B_camera 3 (some .int) ∈ gW := k2_172
def ws_B_camera : List Cond := Cond.code y_B_camera b_B_camera 3 (some .int) :: gW
theorem kc_B_act : Cond.code y_B_act b_B_act 4 (some .int) ∈ gW := k2_190
def ws_B_act : List Cond := Cond.code y_B_act b_B_act 4 (some .int) :: gW
theorem kc_B_state : Cond.code y_B_state b_B_state 2 (some .int) ∈ gW := k2_202
def ws_B_state : List Cond := Cond.code y_B_state b_B_state 2 (some .int) :: gW
theorem kc_B_repeated : Cond.code y_B_repeated b_B_repeated 2 (some .int) ∈ gW := k2_207
def ws_B_repeated : List Cond := Cond.code y_B_repeated b_B_repeated 2 (some .int) :: gW
theorem kc_B_isShip : Cond.code y_B_isShip b_B_isShip 1 (some .boolean) ∈ gW := k1_198
def ws_B_isShip : List Cond := Cond.code y_B_isShip b_B_isShip 1 (some .boolean) :: gW
theorem kc_B_isKind : Cond.code y_B_isKind b_B_isKind 1 (some .boolean) ∈ gW := k1_205
def ws_B_isKind : List Cond := Cond.code y_B_isKind b_B_isKind 1 (some .boolean) :: gW
theorem kc_B_isDay : Cond.code y_B_isDay b_B_isDay 1 (some .boolean) ∈ gW := k1_201
def ws_B_isDay : List Cond := Cond.code y_B_isDay b_B_isDay 1 (some .boolean) :: gW
theorem kc_B_isWeighed : Cond.code y_B_isWeighed b_B_isWeighed 2 (some .boolean) ∈ gW := k1_208
def ws_B_isWeighed : List Cond := Cond.code y_B_isWeighed b_B_isWeighed 2 (some .boolean) :: gW
theorem kc_B_bitAt : Cond.code y_B_bitAt b_B_bitAt 4 (some .int) ∈ gW := k2_107
def ws_B_bitAt : List Cond := Cond.code y_B_bitAt b_B_bitAt 4 (some .int) :: gW
theorem kc_B_choose : Cond.code y_B_choose b_B_choose 5 (some .long) ∈ gW := k2_165
def ws_B_choose : List Cond := Cond.code y_B_choose b_B_choose 5 (some .long) :: gW
theorem kc_B_commonDivisor : Cond.code y_B_commonDivisor b_B_commonDivisor 11 (some .long) ∈ gW := k2_168
def ws_B_commonDivisor : List Cond := Cond.code y_B_commonDivisor b_B_commonDivisor 11 (some .long) :: gW
theorem kc_Mo_init : Cond.code y_Mo_init b_Mo_init 5 none ∈ gW := k3_50
def ws_Mo_init : List Cond := Cond.code y_Mo_init b_Mo_init 5 none :: gW
theorem kc_Mo_thrown : Cond.code y_Mo_thrown b_Mo_thrown 1 (some .int) ∈ gW := k3_138
def ws_Mo_thrown : List Cond := Cond.code y_Mo_thrown b_Mo_thrown 1 (some .int) :: gW
theorem kc_Mo_within : Cond.code y_Mo_within b_Mo_within 6 (some .boolean) ∈ gW := k3_153
def ws_Mo_within : List Cond := Cond.code y_Mo_within b_Mo_within 6 (some .boolean) :: gW
theorem kc_Mo_isTen : Cond.code y_Mo_isTen b_Mo_isTen 1 (some .boolean) ∈ gW := k3_149
def ws_Mo_isTen : List Cond := Cond.code y_Mo_isTen b_Mo_isTen 1 (some .boolean) :: gW
theorem kc_Mo_tell : Cond.code y_Mo_tell b_Mo_tell 8 (some .int) ∈ gW := k3_146
def ws_Mo_tell : List Cond := Cond.code y_Mo_tell b_Mo_tell 8 (some .int) :: gW
theorem kc_Mo_page : Cond.code y_Mo_page b_Mo_page 6 (some .int) ∈ gW := k3_142
def ws_Mo_page : List Cond := Cond.code y_Mo_page b_Mo_page 6 (some .int) :: gW
theorem kc_Mo_sale : Cond.code y_Mo_sale b_Mo_sale 6 (some .int) ∈ gW := k3_158
def ws_Mo_sale : List Cond := Cond.code y_Mo_sale b_Mo_sale 6 (some .int) :: gW
theorem kc_Mo_pointsOf : Cond.code y_Mo_pointsOf b_Mo_pointsOf 10 (some .int) ∈ gW := k3_166
def ws_Mo_pointsOf : List Cond := Cond.code y_Mo_pointsOf b_Mo_pointsOf 10 (some .int) :: gW
theorem kc_Mo_run : Cond.code y_Mo_run b_Mo_run 9 (some .int) ∈ gW := k3_162
def ws_Mo_run : List Cond := Cond.code y_Mo_run b_Mo_run 9 (some .int) :: gW
theorem kc_Mo_isPage : Cond.code y_Mo_isPage b_Mo_isPage 2 (some .boolean) ∈ gW := k3_175
def ws_Mo_isPage : List Cond := Cond.code y_Mo_isPage b_Mo_isPage 2 (some .boolean) :: gW
theorem kc_Mo_pair : Cond.code y_Mo_pair b_Mo_pair 2 (some .int) ∈ gW := k3_171
def ws_Mo_pair : List Cond := Cond.code y_Mo_pair b_Mo_pair 2 (some .int) :: gW
theorem kc_Mo_points : Cond.code y_Mo_points b_Mo_points 2 (some .int) ∈ gW := k3_179
def ws_Mo_points : List Cond := Cond.code y_Mo_points b_Mo_points 2 (some .int) :: gW
theorem kc_Mo_differs : Cond.code y_Mo_differs b_Mo_differs 2 (some .long) ∈ gW := k3_183
def ws_Mo_differs : List Cond := Cond.code y_Mo_differs b_Mo_differs 2 (some .long) :: gW
theorem kc_Mo_waits : Cond.code y_Mo_waits b_Mo_waits 5 (some .int) ∈ gW := k3_187
def ws_Mo_waits : List Cond := Cond.code y_Mo_waits b_Mo_waits 5 (some .int) :: gW
theorem kc_Mo_pageAt : Cond.code y_Mo_pageAt b_Mo_pageAt 2 (some .long) ∈ gW := k3_192
def ws_Mo_pageAt : List Cond := Cond.code y_Mo_pageAt b_Mo_pageAt 2 (some .long) :: gW
theorem kc_Mo_balance : Cond.code y_Mo_balance b_Mo_balance 5 (some .long) ∈ gW := k3_196
def ws_Mo_balance : List Cond := Cond.code y_Mo_balance b_Mo_balance 5 (some .long) :: gW
theorem kc_Mo_plant : Cond.code y_Mo_plant b_Mo_plant 4 (some .int) ∈ gW := k3_200
def ws_Mo_plant : List Cond := Cond.code y_Mo_plant b_Mo_plant 4 (some .int) :: gW
theorem kc_Mo_isPlant : Cond.code y_Mo_isPlant b_Mo_isPlant 2 (some .boolean) ∈ gW := k3_208
def ws_Mo_isPlant : List Cond := Cond.code y_Mo_isPlant b_Mo_isPlant 2 (some .boolean) :: gW
theorem kc_Mo_out : Cond.code y_Mo_out b_Mo_out 5 (some .int) ∈ gW := k3_204
def ws_Mo_out : List Cond := Cond.code y_Mo_out b_Mo_out 5 (some .int) :: gW
theorem kc_Mo_ownIn : Cond.code y_Mo_ownIn b_Mo_ownIn 7 (some .long) ∈ gW := k3_220
def ws_Mo_ownIn : List Cond := Cond.code y_Mo_ownIn b_Mo_ownIn 7 (some .long) :: gW
theorem kc_Mo_lack : Cond.code y_Mo_lack b_Mo_lack 4 (some .long) ∈ gW := k3_216
def ws_Mo_lack : List Cond := Cond.code y_Mo_lack b_Mo_lack 4 (some .long) :: gW
theorem kc_Mo_lacks : Cond.code y_Mo_lacks b_Mo_lacks 2 (some .long) ∈ gW := k3_212
def ws_Mo_lacks : List Cond := Cond.code y_Mo_lacks b_Mo_lacks 2 (some .long) :: gW
theorem kc_Mo_ones : Cond.code y_Mo_ones b_Mo_ones 3 (some .int) ∈ gW := k3_228
def ws_Mo_ones : List Cond := Cond.code y_Mo_ones b_Mo_ones 3 (some .int) :: gW
theorem kc_Mo_nowhere : Cond.code y_Mo_nowhere b_Mo_nowhere 7 (some .int) ∈ gW := k3_225
def ws_Mo_nowhere : List Cond := Cond.code y_Mo_nowhere b_Mo_nowhere 7 (some .int) :: gW
theorem kc_Mo_risk : Cond.code y_Mo_risk b_Mo_risk 4 (some .boolean) ∈ gW := k3_232
def ws_Mo_risk : List Cond := Cond.code y_Mo_risk b_Mo_risk 4 (some .boolean) :: gW
theorem kc_Mo_tryDraw : Cond.code y_Mo_tryDraw b_Mo_tryDraw 10 none ∈ gW := k4_0
def ws_Mo_tryDraw : List Cond := Cond.code y_Mo_tryDraw b_Mo_tryDraw 10 none :: gW
theorem kc_Mo_draw : Cond.code y_Mo_draw b_Mo_draw 3 (some .int) ∈ gW := k3_236
def ws_Mo_draw : List Cond := Cond.code y_Mo_draw b_Mo_draw 3 (some .int) :: gW
theorem kc_Mo_drawn : Cond.code y_Mo_drawn b_Mo_drawn 2 (some .int) ∈ gW := k4_6
def ws_Mo_drawn : List Cond := Cond.code y_Mo_drawn b_Mo_drawn 2 (some .int) :: gW
theorem kc_Mo_same : Cond.code y_Mo_same b_Mo_same 5 (some .boolean) ∈ gW := k4_10
def ws_Mo_same : List Cond := Cond.code y_Mo_same b_Mo_same 5 (some .boolean) :: gW
theorem kc_Mo_missed : Cond.code y_Mo_missed b_Mo_missed 15 (some .long) ∈ gW := k4_14
def ws_Mo_missed : List Cond := Cond.code y_Mo_missed b_Mo_missed 15 (some .long) :: gW
theorem kc_Mo_camera : Cond.code y_Mo_camera b_Mo_camera 10 (some .int) ∈ gW := k4_18
def ws_Mo_camera : List Cond := Cond.code y_Mo_camera b_Mo_camera 10 (some .int) :: gW
theorem kc_Mo_next : Cond.code y_Mo_next b_Mo_next 2 (some .int) ∈ gW := k4_27
def ws_Mo_next : List Cond := Cond.code y_Mo_next b_Mo_next 2 (some .int) :: gW
theorem kc_Mo_act : Cond.code y_Mo_act b_Mo_act 5 (some .int) ∈ gW := k4_24
def ws_Mo_act : List Cond := Cond.code y_Mo_act b_Mo_act 5 (some .int) :: gW
theorem kc_Mo_state : Cond.code y_Mo_state b_Mo_state 2 (some .int) ∈ gW := k4_31
def ws_Mo_state : List Cond := Cond.code y_Mo_state b_Mo_state 2 (some .int) :: gW
theorem kc_Mo_repeated : Cond.code y_Mo_repeated b_Mo_repeated 2 (some .int) ∈ gW := k4_35
def ws_Mo_repeated : List Cond := Cond.code y_Mo_repeated b_Mo_repeated 2 (some .int) :: gW
theorem kc_Ac_init : Cond.code y_Ac_init b_Ac_init 2 none ∈ gW := k1_143
def ws_Ac_init : List Cond := Cond.code y_Ac_init b_Ac_init 2 none :: gW
theorem kc_Ac_tell : Cond.code y_Ac_tell b_Ac_tell 5 (some .int) ∈ gW := k2_194
def ws_Ac_tell : List Cond := Cond.code y_Ac_tell b_Ac_tell 5 (some .int) :: gW
theorem kc_Ac_after : Cond.code y_Ac_after b_Ac_after 2 (some .int) ∈ gW := k2_198
def ws_Ac_after : List Cond := Cond.code y_Ac_after b_Ac_after 2 (some .int) :: gW
theorem kc_Bk_init : Cond.code y_Bk_init b_Bk_init 1 none ∈ gW := k1_28
def ws_Bk_init : List Cond := Cond.code y_Bk_init b_Bk_init 1 none :: gW
theorem kc_Bk_add : Cond.code y_Bk_add b_Bk_add 7 (some .int) ∈ gW := k1_195
def ws_Bk_add : List Cond := Cond.code y_Bk_add b_Bk_add 7 (some .int) :: gW
theorem kc_Bk_has : Cond.code y_Bk_has b_Bk_has 2 (some .boolean) ∈ gW := k1_233
def ws_Bk_has : List Cond := Cond.code y_Bk_has b_Bk_has 2 (some .boolean) :: gW
theorem kc_Bk_gramsOf : Cond.code y_Bk_gramsOf b_Bk_gramsOf 2 (some .long) ∈ gW := k2_27
def ws_Bk_gramsOf : List Cond := Cond.code y_Bk_gramsOf b_Bk_gramsOf 2 (some .long) :: gW
theorem kc_Bk_gramsOfKind : Cond.code y_Bk_gramsOfKind b_Bk_gramsOfKind 5 (some .long) ∈ gW := k2_44
def ws_Bk_gramsOfKind : List Cond := Cond.code y_Bk_gramsOfKind b_Bk_gramsOfKind 5 (some .long) :: gW
theorem kc_Bk_fitWith : Cond.code y_Bk_fitWith b_Bk_fitWith 6 (some .int) ∈ gW := k1_229
def ws_Bk_fitWith : List Cond := Cond.code y_Bk_fitWith b_Bk_fitWith 6 (some .int) :: gW
theorem kc_Bk_lostByGrams : Cond.code y_Bk_lostByGrams b_Bk_lostByGrams 6 (some .int) ∈ gW := k1_236
def ws_Bk_lostByGrams : List Cond := Cond.code y_Bk_lostByGrams b_Bk_lostByGrams 6 (some .int) :: gW
theorem kc_Jo_init : Cond.code y_Jo_init b_Jo_init 1 none ∈ gW := k1_60
def ws_Jo_init : List Cond := Cond.code y_Jo_init b_Jo_init 1 none :: gW
theorem kc_Jo_partAll : Cond.code y_Jo_partAll b_Jo_partAll 2 none ∈ gW := k1_65
def ws_Jo_partAll : List Cond := Cond.code y_Jo_partAll b_Jo_partAll 2 none :: gW
theorem kc_Jo_joinAnew : Cond.code y_Jo_joinAnew b_Jo_joinAnew 5 (some .int) ∈ gW := k1_221
def ws_Jo_joinAnew : List Cond := Cond.code y_Jo_joinAnew b_Jo_joinAnew 5 (some .int) :: gW
theorem kc_Jo_joinBest : Cond.code y_Jo_joinBest b_Jo_joinBest 9 (some .boolean) ∈ gW := k1_225
def ws_Jo_joinBest : List Cond := Cond.code y_Jo_joinBest b_Jo_joinBest 9 (some .boolean) :: gW
theorem kc_Jo_saleOf : Cond.code y_Jo_saleOf b_Jo_saleOf 2 (some .int) ∈ gW := k2_14
def ws_Jo_saleOf : List Cond := Cond.code y_Jo_saleOf b_Jo_saleOf 2 (some .int) :: gW
theorem kc_Jo_waiting : Cond.code y_Jo_waiting b_Jo_waiting 8 (some .int) ∈ gW := k2_35
def ws_Jo_waiting : List Cond := Cond.code y_Jo_waiting b_Jo_waiting 8 (some .int) :: gW
theorem kc_Pl_init : Cond.code y_Pl_init b_Pl_init 1 none ∈ gW := k1_77
def ws_Pl_init : List Cond := Cond.code y_Pl_init b_Pl_init 1 none :: gW
theorem kc_Pl_has : Cond.code y_Pl_has b_Pl_has 2 (some .boolean) ∈ gW := k2_66
def ws_Pl_has : List Cond := Cond.code y_Pl_has b_Pl_has 2 (some .boolean) :: gW
theorem kc_Pl_add : Cond.code y_Pl_add b_Pl_add 5 (some .int) ∈ gW := k2_52
def ws_Pl_add : List Cond := Cond.code y_Pl_add b_Pl_add 5 (some .int) :: gW
theorem kc_Pl_addOut : Cond.code y_Pl_addOut b_Pl_addOut 6 (some .int) ∈ gW := k2_62
def ws_Pl_addOut : List Cond := Cond.code y_Pl_addOut b_Pl_addOut 6 (some .int) :: gW
theorem kc_Pl_lackOf : Cond.code y_Pl_lackOf b_Pl_lackOf 2 (some .long) ∈ gW := k2_76
def ws_Pl_lackOf : List Cond := Cond.code y_Pl_lackOf b_Pl_lackOf 2 (some .long) :: gW
theorem kc_Pl_leastSet : Cond.code y_Pl_leastSet b_Pl_leastSet 8 (some .int) ∈ gW := k2_94
def ws_Pl_leastSet : List Cond := Cond.code y_Pl_leastSet b_Pl_leastSet 8 (some .int) :: gW
theorem kc_Pl_ownKind : Cond.code y_Pl_ownKind b_Pl_ownKind 4 (some .int) ∈ gW := k2_80
def ws_Pl_ownKind : List Cond := Cond.code y_Pl_ownKind b_Pl_ownKind 4 (some .int) :: gW
theorem kc_Pl_gramsOfSet : Cond.code y_Pl_gramsOfSet b_Pl_gramsOfSet 6 (some .long) ∈ gW := k2_84
def ws_Pl_gramsOfSet : List Cond := Cond.code y_Pl_gramsOfSet b_Pl_gramsOfSet 6 (some .long) :: gW
theorem kc_Pl_isBefore : Cond.code y_Pl_isBefore b_Pl_isBefore 5 (some .boolean) ∈ gW := k2_98
def ws_Pl_isBefore : List Cond := Cond.code y_Pl_isBefore b_Pl_isBefore 5 (some .boolean) :: gW
theorem kc_Ri_init : Cond.code y_Ri_init b_Ri_init 2 none ∈ gW := k1_102
def ws_Ri_init : List Cond := Cond.code y_Ri_init b_Ri_init 2 none :: gW
theorem kc_Ri_set : Cond.code y_Ri_set b_Ri_set 4 (some .boolean) ∈ gW := k2_115
def ws_Ri_set : List Cond := Cond.code y_Ri_set b_Ri_set 4 (some .boolean) :: gW
theorem kc_Ri_take : Cond.code y_Ri_take b_Ri_take 11 none ∈ gW := k2_124
def ws_Ri_take : List Cond := Cond.code y_Ri_take b_Ri_take 11 none :: gW
theorem kc_Ri_weighAll : Cond.code y_Ri_weighAll b_Ri_weighAll 4 (some .int) ∈ gW := k2_132
def ws_Ri_weighAll : List Cond := Cond.code y_Ri_weighAll b_Ri_weighAll 4 (some .int) :: gW
theorem kc_Ri_pageOver : Cond.code y_Ri_pageOver b_Ri_pageOver 5 (some .int) ∈ gW := k2_138
def ws_Ri_pageOver : List Cond := Cond.code y_Ri_pageOver b_Ri_pageOver 5 (some .int) :: gW
theorem kc_Ro_init : Cond.code y_Ro_init b_Ro_init 1 none ∈ gW := k1_115
def ws_Ro_init : List Cond := Cond.code y_Ro_init b_Ro_init 1 none :: gW
theorem kc_Ro_begin : Cond.code y_Ro_begin b_Ro_begin 2 none ∈ gW := k2_128
def ws_Ro_begin : List Cond := Cond.code y_Ro_begin b_Ro_begin 2 none :: gW
theorem kc_Ro_append : Cond.code y_Ro_append b_Ro_append 2 none ∈ gW := k2_142
def ws_Ro_append : List Cond := Cond.code y_Ro_append b_Ro_append 2 none :: gW
theorem kc_Ro_at : Cond.code y_Ro_at b_Ro_at 2 (some .int) ∈ gW := k2_150
def ws_Ro_at : List Cond := Cond.code y_Ro_at b_Ro_at 2 (some .int) :: gW
theorem kc_Ro_equalTo : Cond.code y_Ro_equalTo b_Ro_equalTo 3 (some .boolean) ∈ gW := k2_158
def ws_Ro_equalTo : List Cond := Cond.code y_Ro_equalTo b_Ro_equalTo 3 (some .boolean) :: gW
theorem kc_Wa_init : Cond.code y_Wa_init b_Wa_init 1 none ∈ gW := k1_133
def ws_Wa_init : List Cond := Cond.code y_Wa_init b_Wa_init 1 none :: gW
theorem kc_Wa_most : Cond.code y_Wa_most b_Wa_most 9 (some .int) ∈ gW := k2_176
def ws_Wa_most : List Cond := Cond.code y_Wa_most b_Wa_most 9 (some .int) :: gW
theorem kc_Wa_sortMinutes : Cond.code y_Wa_sortMinutes b_Wa_sortMinutes 5 (some .int) ∈ gW := k2_180
def ws_Wa_sortMinutes : List Cond := Cond.code y_Wa_sortMinutes b_Wa_sortMinutes 5 (some .int) :: gW
theorem kc_Wa_insert : Cond.code y_Wa_insert b_Wa_insert 5 none ∈ gW := k2_186
def ws_Wa_insert : List Cond := Cond.code y_Wa_insert b_Wa_insert 5 none :: gW
theorem kc_Lw_cell : Cond.code y_Lw_cell b_Lw_cell 2 (some .int) ∈ gW := k2_210
def ws_Lw_cell : List Cond := Cond.code y_Lw_cell b_Lw_cell 2 (some .int) :: gW
theorem kc_In_bitCount : Cond.code y_In_bitCount b_In_bitCount 1 (some .int) ∈ gW := k2_101
def ws_In_bitCount : List Cond := Cond.code y_In_bitCount b_In_bitCount 1 (some .int) :: gW
