-- 10.words.lean.txt
section
set_option maxRecDepth 100000 in
theorem kw_0 : (Jvm.Cond.initialized "LackFerryLaw") ∈ ab_G := ab_gm (tb_in1 (List.mem_of_getElem? (i := 0) rfl)) rfl
set_option maxRecDepth 100000 in
theorem kw_1 : (Jvm.Cond.initialized "LackFerry") ∈ ab_G := ab_gm (tb_in1 (List.mem_of_getElem? (i := 1) rfl)) rfl
set_option maxRecDepth 100000 in
theorem kw_2 : (Jvm.Cond.initialized "LackFerry$Tape") ∈ ab_G := ab_gm (tb_in1 (List.mem_of_getElem? (i := 2) rfl)) rfl
set_option maxRecDepth 100000 in
theorem kw_3 : (Jvm.Cond.initialized "LackFerry$Tokens") ∈ ab_G := ab_gm (tb_in1 (List.mem_of_getElem? (i := 3) rfl)) rfl
set_option maxRecDepth 100000 in
theorem kw_4 : (Jvm.Cond.initialized "LackFerry$Ferry") ∈ ab_G := ab_gm (tb_in1 (List.mem_of_getElem? (i := 4) rfl)) rfl
set_option maxRecDepth 100000 in
theorem kw_5 : (Jvm.Cond.initialized "LackFerry$History") ∈ ab_G := ab_gm (tb_in1 (List.mem_of_getElem? (i := 5) rfl)) rfl
set_option maxRecDepth 100000 in
theorem kw_6 : (Jvm.Cond.initialized "LackFerry$Shores") ∈ ab_G := ab_gm (tb_in1 (List.mem_of_getElem? (i := 6) rfl)) rfl
set_option maxRecDepth 100000 in
theorem kw_7 : (Jvm.Cond.initialized "LackFerry$LogText") ∈ ab_G := ab_gm (tb_in1 (List.mem_of_getElem? (i := 7) rfl)) rfl
set_option maxRecDepth 100000 in
theorem kw_8 : (Jvm.Cond.initialized "LackFerry$Draws") ∈ ab_G := ab_gm (tb_in1 (List.mem_of_getElem? (i := 8) rfl)) rfl
set_option maxRecDepth 100000 in
theorem kw_9 : (Jvm.Cond.initialized "LackFerry$Strait") ∈ ab_G := ab_gm (tb_in1 (List.mem_of_getElem? (i := 9) rfl)) rfl
set_option maxRecDepth 100000 in
theorem kw_10 : (Jvm.Cond.initialized "LackFerry$Sentence") ∈ ab_G := ab_gm (tb_in1 (List.mem_of_getElem? (i := 10) rfl)) rfl
set_option maxRecDepth 100000 in
theorem kw_11 : (Jvm.Cond.initialized "LackFerryModel") ∈ ab_G := ab_gm (tb_in1 (List.mem_of_getElem? (i := 11) rfl)) rfl
set_option maxRecDepth 100000 in
theorem kw_12 : (Jvm.Cond.initialized "java/lang/String") ∈ ab_G := ab_gm (tb_in1 (List.mem_of_getElem? (i := 12) rfl)) rfl
set_option maxRecDepth 100000 in
theorem kw_13 : (Jvm.Cond.initialized "java/lang/StringLatin1") ∈ ab_G := ab_gm (tb_in1 (List.mem_of_getElem? (i := 13) rfl)) rfl
set_option maxRecDepth 100000 in
theorem kw_14 : (Jvm.Cond.initialized "jdk/internal/util/Preconditions") ∈ ab_G := ab_gm (tb_in1 (List.mem_of_getElem? (i := 14) rfl)) rfl
set_option maxRecDepth 100000 in
theorem kw_16 : (Jvm.Cond.initialized "java/lang/Math") ∈ ab_G := ab_gm (tb_in1 (List.mem_of_getElem? (i := 16) rfl)) rfl
set_option maxRecDepth 100000 in
theorem kw_21 : (Jvm.Cond.initialized "java/lang/System") ∈ ab_G := ab_gm (tb_in1 (List.mem_of_getElem? (i := 21) rfl)) rfl
set_option maxRecDepth 100000 in
theorem kw_22 : (Jvm.Cond.initialized "java/lang/Integer") ∈ ab_G := ab_gm (tb_in1 (List.mem_of_getElem? (i := 22) rfl)) rfl
set_option maxRecDepth 100000 in
theorem kw_23 : (Jvm.Cond.initialized "LackFerry$Image") ∈ ab_G := ab_gm (tb_in1 (List.mem_of_getElem? (i := 23) rfl)) rfl
set_option maxRecDepth 100000 in
theorem kw_24 : (Jvm.Cond.classLink "LackFerryLaw" (8 : Nat) "LackFerry") ∈ ab_G := ab_gm (tb_in1 (List.mem_of_getElem? (i := 24) rfl)) rfl
set_option maxRecDepth 100000 in
theorem kw_25 : (Jvm.Cond.instantiable "LackFerry" (19 : Nat)) ∈ ab_G := ab_gm (tb_in1 (List.mem_of_getElem? (i := 25) rfl)) rfl
set_option maxRecDepth 100000 in
theorem kw_26 : (Jvm.Cond.methodLink "LackFerryLaw" (15 : Nat) ({ cls := "LackFerry", name := "<init>", desc := "()V" } : Jvm.MethodName)) ∈ ab_G := ab_gm (tb_in1 (List.mem_of_getElem? (i := 26) rfl)) rfl
set_option maxRecDepth 100000 in
theorem kw_27 : (Jvm.Cond.instanceMethod ({ cls := "LackFerry", name := "<init>", desc := "()V" } : Jvm.MethodName)) ∈ ab_G := ab_gm (tb_in1 (List.mem_of_getElem? (i := 27) rfl)) rfl
set_option maxRecDepth 100000 in
theorem kw_28 : (Jvm.Cond.code ({ cls := "LackFerry", name := "<init>", desc := "()V" } : Jvm.MethodName) prog_1_method_1_code (1 : Nat) (Option.none : Option Jvm.ClassFile.FieldType)) ∈ ab_G := ab_gm (tb_in1 (List.mem_of_getElem? (i := 28) rfl)) rfl
set_option maxRecDepth 100000 in
theorem kw_29 : (Jvm.Cond.methodLink "LackFerry" (3 : Nat) ({ cls := "java/lang/Object", name := "<init>", desc := "()V" } : Jvm.MethodName)) ∈ ab_G := ab_gm (tb_in1 (List.mem_of_getElem? (i := 29) rfl)) rfl
set_option maxRecDepth 100000 in
theorem kw_30 : (Jvm.Cond.instanceMethod ({ cls := "java/lang/Object", name := "<init>", desc := "()V" } : Jvm.MethodName)) ∈ ab_G := ab_gm (tb_in1 (List.mem_of_getElem? (i := 30) rfl)) rfl
set_option maxRecDepth 100000 in
theorem kw_31 : (Jvm.Cond.code ({ cls := "java/lang/Object", name := "<init>", desc := "()V" } : Jvm.MethodName) object_method_1_code (1 : Nat) (Option.none : Option Jvm.ClassFile.FieldType)) ∈ ab_G := ab_gm (tb_in1 (List.mem_of_getElem? (i := 31) rfl)) rfl
set_option maxRecDepth 100000 in
theorem kw_32 : (Jvm.Cond.classLink "LackFerry" (9 : Nat) "LackFerry$Tape") ∈ ab_G := ab_gm (tb_in1 (List.mem_of_getElem? (i := 32) rfl)) rfl
set_option maxRecDepth 100000 in
theorem kw_33 : (Jvm.Cond.instantiable "LackFerry$Tape" (3 : Nat)) ∈ ab_G := ab_gm (tb_in1 (List.mem_of_getElem? (i := 33) rfl)) rfl
set_option maxRecDepth 100000 in
theorem kw_35 : (Jvm.Cond.instanceMethod ({ cls := "LackFerry$Tape", name := "<init>", desc := "()V" } : Jvm.MethodName)) ∈ ab_G := ab_gm (tb_in1 (List.mem_of_getElem? (i := 35) rfl)) rfl
set_option maxRecDepth 100000 in
theorem kw_36 : (Jvm.Cond.code ({ cls := "LackFerry$Tape", name := "<init>", desc := "()V" } : Jvm.MethodName) prog_10_method_1_code (1 : Nat) (Option.none : Option Jvm.ClassFile.FieldType)) ∈ ab_G := ab_gm (tb_in1 (List.mem_of_getElem? (i := 36) rfl)) rfl
set_option maxRecDepth 100000 in
theorem kw_37 : (Jvm.Cond.methodLink "LackFerry$Tape" (3 : Nat) ({ cls := "java/lang/Object", name := "<init>", desc := "()V" } : Jvm.MethodName)) ∈ ab_G := ab_gm (tb_in1 (List.mem_of_getElem? (i := 37) rfl)) rfl
set_option maxRecDepth 100000 in
theorem kw_38 : (Jvm.Cond.fieldLink "LackFerry$Tape" (9 : Nat) "LackFerry$Tape" "bytes" "[B") ∈ ab_G := ab_gm (tb_in1 (List.mem_of_getElem? (i := 38) rfl)) rfl
set_option maxRecDepth 100000 in
theorem kw_39 : (Jvm.Cond.fieldLink "LackFerry" (100 : Nat) "LackFerry$Tape" "size" "I") ∈ ab_G := ab_gm (tb_in1 (List.mem_of_getElem? (i := 39) rfl)) rfl
set_option maxRecDepth 100000 in
theorem kw_40 : (Jvm.Cond.fieldLink "LackFerry$Tape" (15 : Nat) "LackFerry$Tape" "size" "I") ∈ ab_G := ab_gm (tb_in1 (List.mem_of_getElem? (i := 40) rfl)) rfl
set_option maxRecDepth 100000 in
theorem kw_41 : (Jvm.Cond.fieldLink "LackFerry$Tape" (24 : Nat) "LackFerry$Tape" "at" "I") ∈ ab_G := ab_gm (tb_in1 (List.mem_of_getElem? (i := 41) rfl)) rfl
set_option maxRecDepth 100000 in
theorem kw_42 : (Jvm.Cond.laysFinal "LackFerry$Tape" "LackFerry$Tape" "bytes" "[B") ∈ ab_G := ab_gm (tb_in1 (List.mem_of_getElem? (i := 42) rfl)) rfl
set_option maxRecDepth 100000 in
theorem kw_44 : (Jvm.Cond.lays "LackFerry$Tape" "LackFerry$Tape" "size" "I") ∈ ab_G := ab_gm (tb_in1 (List.mem_of_getElem? (i := 44) rfl)) rfl
set_option maxRecDepth 100000 in
theorem kw_46 : (Jvm.Cond.lays "LackFerry$Tape" "LackFerry$Tape" "at" "I") ∈ ab_G := ab_gm (tb_in1 (List.mem_of_getElem? (i := 46) rfl)) rfl
set_option maxRecDepth 100000 in
theorem kw_49 : (Jvm.Cond.arrayClass Jvm.ClassFile.FieldType.byte) ∈ ab_G := ab_gm (tb_in1 (List.mem_of_getElem? (i := 49) rfl)) rfl
set_option maxRecDepth 100000 in
theorem kw_50 : (Jvm.Cond.classLink "LackFerry" (16 : Nat) "LackFerry$Tokens") ∈ ab_G := ab_gm (tb_in1 (List.mem_of_getElem? (i := 50) rfl)) rfl
set_option maxRecDepth 100000 in
theorem kw_51 : (Jvm.Cond.instantiable "LackFerry$Tokens" (10 : Nat)) ∈ ab_G := ab_gm (tb_in1 (List.mem_of_getElem? (i := 51) rfl)) rfl
set_option maxRecDepth 100000 in
theorem kw_53 : (Jvm.Cond.instanceMethod ({ cls := "LackFerry$Tokens", name := "<init>", desc := "()V" } : Jvm.MethodName)) ∈ ab_G := ab_gm (tb_in1 (List.mem_of_getElem? (i := 53) rfl)) rfl
set_option maxRecDepth 100000 in
theorem kw_54 : (Jvm.Cond.code ({ cls := "LackFerry$Tokens", name := "<init>", desc := "()V" } : Jvm.MethodName) prog_11_method_1_code (1 : Nat) (Option.none : Option Jvm.ClassFile.FieldType)) ∈ ab_G := ab_gm (tb_in1 (List.mem_of_getElem? (i := 54) rfl)) rfl
set_option maxRecDepth 100000 in
theorem kw_55 : (Jvm.Cond.methodLink "LackFerry$Tokens" (3 : Nat) ({ cls := "java/lang/Object", name := "<init>", desc := "()V" } : Jvm.MethodName)) ∈ ab_G := ab_gm (tb_in1 (List.mem_of_getElem? (i := 55) rfl)) rfl
set_option maxRecDepth 100000 in
theorem kw_56 : (Jvm.Cond.fieldLink "LackFerry$Tokens" (9 : Nat) "LackFerry$Tokens" "kinds" "[I") ∈ ab_G := ab_gm (tb_in1 (List.mem_of_getElem? (i := 56) rfl)) rfl
set_option maxRecDepth 100000 in
theorem kw_57 : (Jvm.Cond.fieldLink "LackFerry$Tokens" (15 : Nat) "LackFerry$Tokens" "places" "[I") ∈ ab_G := ab_gm (tb_in1 (List.mem_of_getElem? (i := 57) rfl)) rfl
set_option maxRecDepth 100000 in
theorem kw_58 : (Jvm.Cond.fieldLink "LackFerry$Tokens" (18 : Nat) "LackFerry$Tokens" "values" "[J") ∈ ab_G := ab_gm (tb_in1 (List.mem_of_getElem? (i := 58) rfl)) rfl
set_option maxRecDepth 100000 in
theorem kw_59 : (Jvm.Cond.fieldLink "LackFerry$Tokens" (22 : Nat) "LackFerry$Tokens" "size" "I") ∈ ab_G := ab_gm (tb_in1 (List.mem_of_getElem? (i := 59) rfl)) rfl
set_option maxRecDepth 100000 in
theorem kw_60 : (Jvm.Cond.fieldLink "LackFerry$Tokens" (26 : Nat) "LackFerry$Tokens" "next" "I") ∈ ab_G := ab_gm (tb_in1 (List.mem_of_getElem? (i := 60) rfl)) rfl
set_option maxRecDepth 100000 in
theorem kw_61 : (Jvm.Cond.fieldLink "LackFerry$LogText" (30 : Nat) "LackFerry$Tokens" "kind" "I") ∈ ab_G := ab_gm (tb_in1 (List.mem_of_getElem? (i := 61) rfl)) rfl
set_option maxRecDepth 100000 in
theorem kw_62 : (Jvm.Cond.fieldLink "LackFerry$Sentence" (47 : Nat) "LackFerry$Tokens" "kind" "I") ∈ ab_G := ab_gm (tb_in1 (List.mem_of_getElem? (i := 62) rfl)) rfl
set_option maxRecDepth 100000 in
theorem kw_63 : (Jvm.Cond.fieldLink "LackFerry$Tokens" (32 : Nat) "LackFerry$Tokens" "kind" "I") ∈ ab_G := ab_gm (tb_in1 (List.mem_of_getElem? (i := 63) rfl)) rfl
set_option maxRecDepth 100000 in
theorem kw_64 : (Jvm.Cond.fieldLink "LackFerry$Strait" (81 : Nat) "LackFerry$Tokens" "kind" "I") ∈ ab_G := ab_gm (tb_in1 (List.mem_of_getElem? (i := 64) rfl)) rfl
set_option maxRecDepth 100000 in
theorem kw_65 : (Jvm.Cond.fieldLink "LackFerry" (122 : Nat) "LackFerry$Tokens" "place" "I") ∈ ab_G := ab_gm (tb_in1 (List.mem_of_getElem? (i := 65) rfl)) rfl
set_option maxRecDepth 100000 in
theorem kw_66 : (Jvm.Cond.fieldLink "LackFerry$Tokens" (35 : Nat) "LackFerry$Tokens" "place" "I") ∈ ab_G := ab_gm (tb_in1 (List.mem_of_getElem? (i := 66) rfl)) rfl
set_option maxRecDepth 100000 in
theorem kw_67 : (Jvm.Cond.fieldLink "LackFerry$LogText" (74 : Nat) "LackFerry$Tokens" "number" "I") ∈ ab_G := ab_gm (tb_in1 (List.mem_of_getElem? (i := 67) rfl)) rfl
set_option maxRecDepth 100000 in
theorem kw_68 : (Jvm.Cond.fieldLink "LackFerry$Tokens" (42 : Nat) "LackFerry$Tokens" "number" "I") ∈ ab_G := ab_gm (tb_in1 (List.mem_of_getElem? (i := 68) rfl)) rfl
set_option maxRecDepth 100000 in
theorem kw_69 : (Jvm.Cond.fieldLink "LackFerry$Sentence" (77 : Nat) "LackFerry$Tokens" "number" "I") ∈ ab_G := ab_gm (tb_in1 (List.mem_of_getElem? (i := 69) rfl)) rfl
set_option maxRecDepth 100000 in
theorem kw_70 : (Jvm.Cond.fieldLink "LackFerry$Strait" (115 : Nat) "LackFerry$Tokens" "number" "I") ∈ ab_G := ab_gm (tb_in1 (List.mem_of_getElem? (i := 70) rfl)) rfl
set_option maxRecDepth 100000 in
theorem kw_71 : (Jvm.Cond.fieldLink "LackFerry$LogText" (44 : Nat) "LackFerry$Tokens" "name" "J") ∈ ab_G := ab_gm (tb_in1 (List.mem_of_getElem? (i := 71) rfl)) rfl
set_option maxRecDepth 100000 in
theorem kw_72 : (Jvm.Cond.fieldLink "LackFerry$Tokens" (38 : Nat) "LackFerry$Tokens" "name" "J") ∈ ab_G := ab_gm (tb_in1 (List.mem_of_getElem? (i := 72) rfl)) rfl
set_option maxRecDepth 100000 in
theorem kw_73 : (Jvm.Cond.fieldLink "LackFerry$Strait" (122 : Nat) "LackFerry$Tokens" "name" "J") ∈ ab_G := ab_gm (tb_in1 (List.mem_of_getElem? (i := 73) rfl)) rfl
set_option maxRecDepth 100000 in
theorem kw_74 : (Jvm.Cond.fieldLink "LackFerry$Tokens" (29 : Nat) "LackFerry$Tokens" "faultKind" "I") ∈ ab_G := ab_gm (tb_in1 (List.mem_of_getElem? (i := 74) rfl)) rfl
set_option maxRecDepth 100000 in
theorem kw_75 : (Jvm.Cond.fieldLink "LackFerry" (116 : Nat) "LackFerry$Tokens" "faultKind" "I") ∈ ab_G := ab_gm (tb_in1 (List.mem_of_getElem? (i := 75) rfl)) rfl
set_option maxRecDepth 100000 in
theorem kw_76 : (Jvm.Cond.laysFinal "LackFerry$Tokens" "LackFerry$Tokens" "kinds" "[I") ∈ ab_G := ab_gm (tb_in1 (List.mem_of_getElem? (i := 76) rfl)) rfl
set_option maxRecDepth 100000 in
theorem kw_78 : (Jvm.Cond.laysFinal "LackFerry$Tokens" "LackFerry$Tokens" "places" "[I") ∈ ab_G := ab_gm (tb_in1 (List.mem_of_getElem? (i := 78) rfl)) rfl
set_option maxRecDepth 100000 in
theorem kw_80 : (Jvm.Cond.laysFinal "LackFerry$Tokens" "LackFerry$Tokens" "values" "[J") ∈ ab_G := ab_gm (tb_in1 (List.mem_of_getElem? (i := 80) rfl)) rfl
set_option maxRecDepth 100000 in
theorem kw_82 : (Jvm.Cond.lays "LackFerry$Tokens" "LackFerry$Tokens" "size" "I") ∈ ab_G := ab_gm (tb_in1 (List.mem_of_getElem? (i := 82) rfl)) rfl
set_option maxRecDepth 100000 in
theorem kw_84 : (Jvm.Cond.lays "LackFerry$Tokens" "LackFerry$Tokens" "next" "I") ∈ ab_G := ab_gm (tb_in1 (List.mem_of_getElem? (i := 84) rfl)) rfl
set_option maxRecDepth 100000 in
theorem kw_86 : (Jvm.Cond.lays "LackFerry$Tokens" "LackFerry$Tokens" "kind" "I") ∈ ab_G := ab_gm (tb_in1 (List.mem_of_getElem? (i := 86) rfl)) rfl
set_option maxRecDepth 100000 in
theorem kw_88 : (Jvm.Cond.lays "LackFerry$Tokens" "LackFerry$Tokens" "place" "I") ∈ ab_G := ab_gm (tb_in1 (List.mem_of_getElem? (i := 88) rfl)) rfl
set_option maxRecDepth 100000 in
theorem kw_90 : (Jvm.Cond.lays "LackFerry$Tokens" "LackFerry$Tokens" "number" "I") ∈ ab_G := ab_gm (tb_in1 (List.mem_of_getElem? (i := 90) rfl)) rfl
set_option maxRecDepth 100000 in
theorem kw_92 : (Jvm.Cond.lays "LackFerry$Tokens" "LackFerry$Tokens" "name" "J") ∈ ab_G := ab_gm (tb_in1 (List.mem_of_getElem? (i := 92) rfl)) rfl
set_option maxRecDepth 100000 in
theorem kw_94 : (Jvm.Cond.lays "LackFerry$Tokens" "LackFerry$Tokens" "faultKind" "I") ∈ ab_G := ab_gm (tb_in1 (List.mem_of_getElem? (i := 94) rfl)) rfl
set_option maxRecDepth 100000 in
theorem kw_97 : (Jvm.Cond.arrayClass Jvm.ClassFile.FieldType.int) ∈ ab_G := ab_gm (tb_in1 (List.mem_of_getElem? (i := 97) rfl)) rfl
set_option maxRecDepth 100000 in
theorem kw_98 : (Jvm.Cond.arrayClass Jvm.ClassFile.FieldType.long) ∈ ab_G := ab_gm (tb_in1 (List.mem_of_getElem? (i := 98) rfl)) rfl
set_option maxRecDepth 100000 in
theorem kw_99 : (Jvm.Cond.classLink "LackFerry" (23 : Nat) "LackFerry$Ferry") ∈ ab_G := ab_gm (tb_in1 (List.mem_of_getElem? (i := 99) rfl)) rfl
set_option maxRecDepth 100000 in
theorem kw_100 : (Jvm.Cond.instantiable "LackFerry$Ferry" (4 : Nat)) ∈ ab_G := ab_gm (tb_in1 (List.mem_of_getElem? (i := 100) rfl)) rfl
set_option maxRecDepth 100000 in
theorem kw_102 : (Jvm.Cond.instanceMethod ({ cls := "LackFerry$Ferry", name := "<init>", desc := "()V" } : Jvm.MethodName)) ∈ ab_G := ab_gm (tb_in1 (List.mem_of_getElem? (i := 102) rfl)) rfl
set_option maxRecDepth 100000 in
theorem kw_103 : (Jvm.Cond.code ({ cls := "LackFerry$Ferry", name := "<init>", desc := "()V" } : Jvm.MethodName) prog_3_method_1_code (1 : Nat) (Option.none : Option Jvm.ClassFile.FieldType)) ∈ ab_G := ab_gm (tb_in1 (List.mem_of_getElem? (i := 103) rfl)) rfl
set_option maxRecDepth 100000 in
theorem kw_104 : (Jvm.Cond.methodLink "LackFerry$Ferry" (3 : Nat) ({ cls := "java/lang/Object", name := "<init>", desc := "()V" } : Jvm.MethodName)) ∈ ab_G := ab_gm (tb_in1 (List.mem_of_getElem? (i := 104) rfl)) rfl
set_option maxRecDepth 100000 in
theorem kw_105 : (Jvm.Cond.fieldLink "LackFerry$Ferry" (9 : Nat) "LackFerry$Ferry" "freight" "[I") ∈ ab_G := ab_gm (tb_in1 (List.mem_of_getElem? (i := 105) rfl)) rfl
set_option maxRecDepth 100000 in
theorem kw_106 : (Jvm.Cond.fieldLink "LackFerry" (281 : Nat) "LackFerry$Ferry" "freight" "[I") ∈ ab_G := ab_gm (tb_in1 (List.mem_of_getElem? (i := 106) rfl)) rfl
set_option maxRecDepth 100000 in
theorem kw_107 : (Jvm.Cond.fieldLink "LackFerry$Ferry" (15 : Nat) "LackFerry$Ferry" "roomFor" "[I") ∈ ab_G := ab_gm (tb_in1 (List.mem_of_getElem? (i := 107) rfl)) rfl
set_option maxRecDepth 100000 in
theorem kw_108 : (Jvm.Cond.fieldLink "LackFerry" (296 : Nat) "LackFerry$Ferry" "roomFor" "[I") ∈ ab_G := ab_gm (tb_in1 (List.mem_of_getElem? (i := 108) rfl)) rfl
set_option maxRecDepth 100000 in
theorem kw_109 : (Jvm.Cond.fieldLink "LackFerry$Ferry" (45 : Nat) "LackFerry$Ferry" "boarders" "I") ∈ ab_G := ab_gm (tb_in1 (List.mem_of_getElem? (i := 109) rfl)) rfl
set_option maxRecDepth 100000 in
theorem kw_110 : (Jvm.Cond.fieldLink "LackFerry" (278 : Nat) "LackFerry$Ferry" "boarders" "I") ∈ ab_G := ab_gm (tb_in1 (List.mem_of_getElem? (i := 110) rfl)) rfl
set_option maxRecDepth 100000 in
theorem kw_111 : (Jvm.Cond.fieldLink "LackFerry$Ferry" (42 : Nat) "LackFerry$Ferry" "used" "I") ∈ ab_G := ab_gm (tb_in1 (List.mem_of_getElem? (i := 111) rfl)) rfl
set_option maxRecDepth 100000 in
theorem kw_112 : (Jvm.Cond.laysFinal "LackFerry$Ferry" "LackFerry$Ferry" "freight" "[I") ∈ ab_G := ab_gm (tb_in1 (List.mem_of_getElem? (i := 112) rfl)) rfl
set_option maxRecDepth 100000 in
theorem kw_114 : (Jvm.Cond.laysFinal "LackFerry$Ferry" "LackFerry$Ferry" "roomFor" "[I") ∈ ab_G := ab_gm (tb_in1 (List.mem_of_getElem? (i := 114) rfl)) rfl
set_option maxRecDepth 100000 in
theorem kw_116 : (Jvm.Cond.lays "LackFerry$Ferry" "LackFerry$Ferry" "boarders" "I") ∈ ab_G := ab_gm (tb_in1 (List.mem_of_getElem? (i := 116) rfl)) rfl
set_option maxRecDepth 100000 in
theorem kw_118 : (Jvm.Cond.lays "LackFerry$Ferry" "LackFerry$Ferry" "used" "I") ∈ ab_G := ab_gm (tb_in1 (List.mem_of_getElem? (i := 118) rfl)) rfl
set_option maxRecDepth 100000 in
theorem kw_121 : (Jvm.Cond.classLink "LackFerry" (30 : Nat) "LackFerry$History") ∈ ab_G := ab_gm (tb_in1 (List.mem_of_getElem? (i := 121) rfl)) rfl
set_option maxRecDepth 100000 in
theorem kw_122 : (Jvm.Cond.instantiable "LackFerry$History" (2 : Nat)) ∈ ab_G := ab_gm (tb_in1 (List.mem_of_getElem? (i := 122) rfl)) rfl
set_option maxRecDepth 100000 in
theorem kw_124 : (Jvm.Cond.instanceMethod ({ cls := "LackFerry$History", name := "<init>", desc := "()V" } : Jvm.MethodName)) ∈ ab_G := ab_gm (tb_in1 (List.mem_of_getElem? (i := 124) rfl)) rfl
set_option maxRecDepth 100000 in
theorem kw_125 : (Jvm.Cond.code ({ cls := "LackFerry$History", name := "<init>", desc := "()V" } : Jvm.MethodName) prog_4_method_1_code (1 : Nat) (Option.none : Option Jvm.ClassFile.FieldType)) ∈ ab_G := ab_gm (tb_in1 (List.mem_of_getElem? (i := 125) rfl)) rfl
set_option maxRecDepth 100000 in
theorem kw_126 : (Jvm.Cond.methodLink "LackFerry$History" (3 : Nat) ({ cls := "java/lang/Object", name := "<init>", desc := "()V" } : Jvm.MethodName)) ∈ ab_G := ab_gm (tb_in1 (List.mem_of_getElem? (i := 126) rfl)) rfl
set_option maxRecDepth 100000 in
theorem kw_127 : (Jvm.Cond.classLink "LackFerry$History" (9 : Nat) "LackFerry$Shores") ∈ ab_G := ab_gm (tb_in1 (List.mem_of_getElem? (i := 127) rfl)) rfl
set_option maxRecDepth 100000 in
theorem kw_129 : (Jvm.Cond.fieldLink "LackFerry$History" (11 : Nat) "LackFerry$History" "kept" "[LLackFerry$Shores;") ∈ ab_G := ab_gm (tb_in1 (List.mem_of_getElem? (i := 129) rfl)) rfl
set_option maxRecDepth 100000 in
theorem kw_130 : (Jvm.Cond.fieldLink "LackFerry$History" (17 : Nat) "LackFerry$History" "size" "I") ∈ ab_G := ab_gm (tb_in1 (List.mem_of_getElem? (i := 130) rfl)) rfl
set_option maxRecDepth 100000 in
theorem kw_131 : (Jvm.Cond.laysFinal "LackFerry$History" "LackFerry$History" "kept" "[LLackFerry$Shores;") ∈ ab_G := ab_gm (tb_in1 (List.mem_of_getElem? (i := 131) rfl)) rfl
set_option maxRecDepth 100000 in
theorem kw_133 : (Jvm.Cond.lays "LackFerry$History" "LackFerry$History" "size" "I") ∈ ab_G := ab_gm (tb_in1 (List.mem_of_getElem? (i := 133) rfl)) rfl
set_option maxRecDepth 100000 in
theorem kw_136 : (Jvm.Cond.classLink "LackFerry" (37 : Nat) "LackFerry$Shores") ∈ ab_G := ab_gm (tb_in1 (List.mem_of_getElem? (i := 136) rfl)) rfl
set_option maxRecDepth 100000 in
theorem kw_137 : (Jvm.Cond.instantiable "LackFerry$Shores" (10 : Nat)) ∈ ab_G := ab_gm (tb_in1 (List.mem_of_getElem? (i := 137) rfl)) rfl
set_option maxRecDepth 100000 in
theorem kw_139 : (Jvm.Cond.instanceMethod ({ cls := "LackFerry$Shores", name := "<init>", desc := "()V" } : Jvm.MethodName)) ∈ ab_G := ab_gm (tb_in1 (List.mem_of_getElem? (i := 139) rfl)) rfl
set_option maxRecDepth 100000 in
theorem kw_140 : (Jvm.Cond.code ({ cls := "LackFerry$Shores", name := "<init>", desc := "()V" } : Jvm.MethodName) prog_8_method_1_code (1 : Nat) (Option.none : Option Jvm.ClassFile.FieldType)) ∈ ab_G := ab_gm (tb_in1 (List.mem_of_getElem? (i := 140) rfl)) rfl
set_option maxRecDepth 100000 in
theorem kw_141 : (Jvm.Cond.methodLink "LackFerry$Shores" (3 : Nat) ({ cls := "java/lang/Object", name := "<init>", desc := "()V" } : Jvm.MethodName)) ∈ ab_G := ab_gm (tb_in1 (List.mem_of_getElem? (i := 141) rfl)) rfl
set_option maxRecDepth 100000 in
theorem kw_142 : (Jvm.Cond.fieldLink "LackFerry$Shores" (9 : Nat) "LackFerry$Shores" "stocks" "[I") ∈ ab_G := ab_gm (tb_in1 (List.mem_of_getElem? (i := 142) rfl)) rfl
set_option maxRecDepth 100000 in
theorem kw_143 : (Jvm.Cond.fieldLink "LackFerry$Ferry" (68 : Nat) "LackFerry$Shores" "stocks" "[I") ∈ ab_G := ab_gm (tb_in1 (List.mem_of_getElem? (i := 143) rfl)) rfl
set_option maxRecDepth 100000 in
theorem kw_144 : (Jvm.Cond.fieldLink "LackFerry" (163 : Nat) "LackFerry$Shores" "stocks" "[I") ∈ ab_G := ab_gm (tb_in1 (List.mem_of_getElem? (i := 144) rfl)) rfl
set_option maxRecDepth 100000 in
theorem kw_145 : (Jvm.Cond.fieldLink "LackFerry$Sentence" (116 : Nat) "LackFerry$Shores" "stocks" "[I") ∈ ab_G := ab_gm (tb_in1 (List.mem_of_getElem? (i := 145) rfl)) rfl
set_option maxRecDepth 100000 in
theorem kw_146 : (Jvm.Cond.fieldLink "LackFerry$Shores" (15 : Nat) "LackFerry$Shores" "hoards" "[I") ∈ ab_G := ab_gm (tb_in1 (List.mem_of_getElem? (i := 146) rfl)) rfl
set_option maxRecDepth 100000 in
theorem kw_147 : (Jvm.Cond.fieldLink "LackFerry$Sentence" (104 : Nat) "LackFerry$Shores" "hoards" "[I") ∈ ab_G := ab_gm (tb_in1 (List.mem_of_getElem? (i := 147) rfl)) rfl
set_option maxRecDepth 100000 in
theorem kw_148 : (Jvm.Cond.fieldLink "LackFerry" (166 : Nat) "LackFerry$Shores" "hoards" "[I") ∈ ab_G := ab_gm (tb_in1 (List.mem_of_getElem? (i := 148) rfl)) rfl
set_option maxRecDepth 100000 in
theorem kw_149 : (Jvm.Cond.fieldLink "LackFerry$Shores" (18 : Nat) "LackFerry$Shores" "hungers" "[I") ∈ ab_G := ab_gm (tb_in1 (List.mem_of_getElem? (i := 149) rfl)) rfl
set_option maxRecDepth 100000 in
theorem kw_150 : (Jvm.Cond.fieldLink "LackFerry" (180 : Nat) "LackFerry$Shores" "hungers" "[I") ∈ ab_G := ab_gm (tb_in1 (List.mem_of_getElem? (i := 150) rfl)) rfl
set_option maxRecDepth 100000 in
theorem kw_151 : (Jvm.Cond.fieldLink "LackFerry$Shores" (21 : Nat) "LackFerry$Shores" "broughtTo" "[I") ∈ ab_G := ab_gm (tb_in1 (List.mem_of_getElem? (i := 151) rfl)) rfl
set_option maxRecDepth 100000 in
theorem kw_152 : (Jvm.Cond.fieldLink "LackFerry$Ferry" (92 : Nat) "LackFerry$Shores" "broughtTo" "[I") ∈ ab_G := ab_gm (tb_in1 (List.mem_of_getElem? (i := 152) rfl)) rfl
set_option maxRecDepth 100000 in
theorem kw_153 : (Jvm.Cond.fieldLink "LackFerry" (183 : Nat) "LackFerry$Shores" "broughtTo" "[I") ∈ ab_G := ab_gm (tb_in1 (List.mem_of_getElem? (i := 153) rfl)) rfl
set_option maxRecDepth 100000 in
theorem kw_154 : (Jvm.Cond.fieldLink "LackFerry$Sentence" (119 : Nat) "LackFerry$Shores" "broughtTo" "[I") ∈ ab_G := ab_gm (tb_in1 (List.mem_of_getElem? (i := 154) rfl)) rfl
set_option maxRecDepth 100000 in
theorem kw_155 : (Jvm.Cond.fieldLink "LackFerry$Shores" (24 : Nat) "LackFerry$Shores" "shoreOf" "[I") ∈ ab_G := ab_gm (tb_in1 (List.mem_of_getElem? (i := 155) rfl)) rfl
set_option maxRecDepth 100000 in
theorem kw_156 : (Jvm.Cond.fieldLink "LackFerry$Ferry" (55 : Nat) "LackFerry$Shores" "shoreOf" "[I") ∈ ab_G := ab_gm (tb_in1 (List.mem_of_getElem? (i := 156) rfl)) rfl
set_option maxRecDepth 100000 in
theorem kw_157 : (Jvm.Cond.fieldLink "LackFerry" (193 : Nat) "LackFerry$Shores" "shoreOf" "[I") ∈ ab_G := ab_gm (tb_in1 (List.mem_of_getElem? (i := 157) rfl)) rfl
set_option maxRecDepth 100000 in
theorem kw_158 : (Jvm.Cond.fieldLink "LackFerry$Shores" (27 : Nat) "LackFerry$Shores" "trips" "[I") ∈ ab_G := ab_gm (tb_in1 (List.mem_of_getElem? (i := 158) rfl)) rfl
set_option maxRecDepth 100000 in
theorem kw_159 : (Jvm.Cond.fieldLink "LackFerry$Ferry" (89 : Nat) "LackFerry$Shores" "trips" "[I") ∈ ab_G := ab_gm (tb_in1 (List.mem_of_getElem? (i := 159) rfl)) rfl
set_option maxRecDepth 100000 in
theorem kw_160 : (Jvm.Cond.fieldLink "LackFerry" (202 : Nat) "LackFerry$Shores" "trips" "[I") ∈ ab_G := ab_gm (tb_in1 (List.mem_of_getElem? (i := 160) rfl)) rfl
set_option maxRecDepth 100000 in
theorem kw_161 : (Jvm.Cond.fieldLink "LackFerry$Shores" (30 : Nat) "LackFerry$Shores" "daysApart" "[I") ∈ ab_G := ab_gm (tb_in1 (List.mem_of_getElem? (i := 161) rfl)) rfl
set_option maxRecDepth 100000 in
theorem kw_162 : (Jvm.Cond.fieldLink "LackFerry$Shores" (42 : Nat) "LackFerry$Shores" "day" "I") ∈ ab_G := ab_gm (tb_in1 (List.mem_of_getElem? (i := 162) rfl)) rfl
set_option maxRecDepth 100000 in
theorem kw_163 : (Jvm.Cond.fieldLink "LackFerry$Ferry" (33 : Nat) "LackFerry$Shores" "day" "I") ∈ ab_G := ab_gm (tb_in1 (List.mem_of_getElem? (i := 163) rfl)) rfl
set_option maxRecDepth 100000 in
theorem kw_164 : (Jvm.Cond.fieldLink "LackFerry" (213 : Nat) "LackFerry$Shores" "day" "I") ∈ ab_G := ab_gm (tb_in1 (List.mem_of_getElem? (i := 164) rfl)) rfl
set_option maxRecDepth 100000 in
theorem kw_165 : (Jvm.Cond.fieldLink "LackFerry$Shores" (46 : Nat) "LackFerry$Shores" "emptyTrips" "I") ∈ ab_G := ab_gm (tb_in1 (List.mem_of_getElem? (i := 165) rfl)) rfl
set_option maxRecDepth 100000 in
theorem kw_166 : (Jvm.Cond.fieldLink "LackFerry$Ferry" (98 : Nat) "LackFerry$Shores" "emptyTrips" "I") ∈ ab_G := ab_gm (tb_in1 (List.mem_of_getElem? (i := 166) rfl)) rfl
set_option maxRecDepth 100000 in
theorem kw_167 : (Jvm.Cond.fieldLink "LackFerry" (223 : Nat) "LackFerry$Shores" "emptyTrips" "I") ∈ ab_G := ab_gm (tb_in1 (List.mem_of_getElem? (i := 167) rfl)) rfl
set_option maxRecDepth 100000 in
theorem kw_168 : (Jvm.Cond.fieldLink "LackFerry$Shores" (49 : Nat) "LackFerry$Shores" "roomUsed" "I") ∈ ab_G := ab_gm (tb_in1 (List.mem_of_getElem? (i := 168) rfl)) rfl
set_option maxRecDepth 100000 in
theorem kw_169 : (Jvm.Cond.fieldLink "LackFerry$Ferry" (95 : Nat) "LackFerry$Shores" "roomUsed" "I") ∈ ab_G := ab_gm (tb_in1 (List.mem_of_getElem? (i := 169) rfl)) rfl
set_option maxRecDepth 100000 in
theorem kw_170 : (Jvm.Cond.fieldLink "LackFerry" (226 : Nat) "LackFerry$Shores" "roomUsed" "I") ∈ ab_G := ab_gm (tb_in1 (List.mem_of_getElem? (i := 170) rfl)) rfl
set_option maxRecDepth 100000 in
theorem kw_171 : (Jvm.Cond.laysFinal "LackFerry$Shores" "LackFerry$Shores" "stocks" "[I") ∈ ab_G := ab_gm (tb_in1 (List.mem_of_getElem? (i := 171) rfl)) rfl
set_option maxRecDepth 100000 in
theorem kw_173 : (Jvm.Cond.laysFinal "LackFerry$Shores" "LackFerry$Shores" "hoards" "[I") ∈ ab_G := ab_gm (tb_in1 (List.mem_of_getElem? (i := 173) rfl)) rfl
set_option maxRecDepth 100000 in
theorem kw_175 : (Jvm.Cond.laysFinal "LackFerry$Shores" "LackFerry$Shores" "hungers" "[I") ∈ ab_G := ab_gm (tb_in1 (List.mem_of_getElem? (i := 175) rfl)) rfl
set_option maxRecDepth 100000 in
theorem kw_177 : (Jvm.Cond.laysFinal "LackFerry$Shores" "LackFerry$Shores" "broughtTo" "[I") ∈ ab_G := ab_gm (tb_in1 (List.mem_of_getElem? (i := 177) rfl)) rfl
set_option maxRecDepth 100000 in
theorem kw_179 : (Jvm.Cond.laysFinal "LackFerry$Shores" "LackFerry$Shores" "shoreOf" "[I") ∈ ab_G := ab_gm (tb_in1 (List.mem_of_getElem? (i := 179) rfl)) rfl
set_option maxRecDepth 100000 in
theorem kw_181 : (Jvm.Cond.laysFinal "LackFerry$Shores" "LackFerry$Shores" "trips" "[I") ∈ ab_G := ab_gm (tb_in1 (List.mem_of_getElem? (i := 181) rfl)) rfl
set_option maxRecDepth 100000 in
theorem kw_183 : (Jvm.Cond.laysFinal "LackFerry$Shores" "LackFerry$Shores" "daysApart" "[I") ∈ ab_G := ab_gm (tb_in1 (List.mem_of_getElem? (i := 183) rfl)) rfl
set_option maxRecDepth 100000 in
theorem kw_185 : (Jvm.Cond.lays "LackFerry$Shores" "LackFerry$Shores" "day" "I") ∈ ab_G := ab_gm (tb_in1 (List.mem_of_getElem? (i := 185) rfl)) rfl
set_option maxRecDepth 100000 in
theorem kw_187 : (Jvm.Cond.lays "LackFerry$Shores" "LackFerry$Shores" "emptyTrips" "I") ∈ ab_G := ab_gm (tb_in1 (List.mem_of_getElem? (i := 187) rfl)) rfl
set_option maxRecDepth 100000 in
theorem kw_189 : (Jvm.Cond.lays "LackFerry$Shores" "LackFerry$Shores" "roomUsed" "I") ∈ ab_G := ab_gm (tb_in1 (List.mem_of_getElem? (i := 189) rfl)) rfl
set_option maxRecDepth 100000 in
theorem kw_192 : (Jvm.Cond.classLink "LackFerry" (50 : Nat) "LackFerry$LogText") ∈ ab_G := ab_gm (tb_in1 (List.mem_of_getElem? (i := 192) rfl)) rfl
set_option maxRecDepth 100000 in
theorem kw_193 : (Jvm.Cond.instantiable "LackFerry$LogText" (4 : Nat)) ∈ ab_G := ab_gm (tb_in1 (List.mem_of_getElem? (i := 193) rfl)) rfl
set_option maxRecDepth 100000 in
theorem kw_195 : (Jvm.Cond.instanceMethod ({ cls := "LackFerry$LogText", name := "<init>", desc := "()V" } : Jvm.MethodName)) ∈ ab_G := ab_gm (tb_in1 (List.mem_of_getElem? (i := 195) rfl)) rfl
set_option maxRecDepth 100000 in
theorem kw_196 : (Jvm.Cond.code ({ cls := "LackFerry$LogText", name := "<init>", desc := "()V" } : Jvm.MethodName) prog_6_method_1_code (1 : Nat) (Option.none : Option Jvm.ClassFile.FieldType)) ∈ ab_G := ab_gm (tb_in1 (List.mem_of_getElem? (i := 196) rfl)) rfl
set_option maxRecDepth 100000 in
theorem kw_197 : (Jvm.Cond.methodLink "LackFerry$LogText" (3 : Nat) ({ cls := "java/lang/Object", name := "<init>", desc := "()V" } : Jvm.MethodName)) ∈ ab_G := ab_gm (tb_in1 (List.mem_of_getElem? (i := 197) rfl)) rfl
set_option maxRecDepth 100000 in
theorem kw_198 : (Jvm.Cond.fieldLink "LackFerry$LogText" (9 : Nat) "LackFerry$LogText" "deeds" "[I") ∈ ab_G := ab_gm (tb_in1 (List.mem_of_getElem? (i := 198) rfl)) rfl
set_option maxRecDepth 100000 in
theorem kw_199 : (Jvm.Cond.fieldLink "LackFerry" (350 : Nat) "LackFerry$LogText" "deeds" "[I") ∈ ab_G := ab_gm (tb_in1 (List.mem_of_getElem? (i := 199) rfl)) rfl
set_option maxRecDepth 100000 in
theorem kw_200 : (Jvm.Cond.fieldLink "LackFerry$LogText" (15 : Nat) "LackFerry$LogText" "whom" "[I") ∈ ab_G := ab_gm (tb_in1 (List.mem_of_getElem? (i := 200) rfl)) rfl
set_option maxRecDepth 100000 in
theorem kw_201 : (Jvm.Cond.fieldLink "LackFerry" (353 : Nat) "LackFerry$LogText" "whom" "[I") ∈ ab_G := ab_gm (tb_in1 (List.mem_of_getElem? (i := 201) rfl)) rfl
set_option maxRecDepth 100000 in
theorem kw_202 : (Jvm.Cond.fieldLink "LackFerry$LogText" (18 : Nat) "LackFerry$LogText" "amounts" "[I") ∈ ab_G := ab_gm (tb_in1 (List.mem_of_getElem? (i := 202) rfl)) rfl
set_option maxRecDepth 100000 in
theorem kw_203 : (Jvm.Cond.fieldLink "LackFerry" (356 : Nat) "LackFerry$LogText" "amounts" "[I") ∈ ab_G := ab_gm (tb_in1 (List.mem_of_getElem? (i := 203) rfl)) rfl
set_option maxRecDepth 100000 in
theorem kw_204 : (Jvm.Cond.fieldLink "LackFerry$LogText" (21 : Nat) "LackFerry$LogText" "lines" "I") ∈ ab_G := ab_gm (tb_in1 (List.mem_of_getElem? (i := 204) rfl)) rfl
set_option maxRecDepth 100000 in
theorem kw_205 : (Jvm.Cond.fieldLink "LackFerry" (347 : Nat) "LackFerry$LogText" "lines" "I") ∈ ab_G := ab_gm (tb_in1 (List.mem_of_getElem? (i := 205) rfl)) rfl
set_option maxRecDepth 100000 in
theorem kw_206 : (Jvm.Cond.laysFinal "LackFerry$LogText" "LackFerry$LogText" "deeds" "[I") ∈ ab_G := ab_gm (tb_in1 (List.mem_of_getElem? (i := 206) rfl)) rfl
set_option maxRecDepth 100000 in
theorem kw_208 : (Jvm.Cond.laysFinal "LackFerry$LogText" "LackFerry$LogText" "whom" "[I") ∈ ab_G := ab_gm (tb_in1 (List.mem_of_getElem? (i := 208) rfl)) rfl
set_option maxRecDepth 100000 in
theorem kw_210 : (Jvm.Cond.laysFinal "LackFerry$LogText" "LackFerry$LogText" "amounts" "[I") ∈ ab_G := ab_gm (tb_in1 (List.mem_of_getElem? (i := 210) rfl)) rfl
set_option maxRecDepth 100000 in
theorem kw_212 : (Jvm.Cond.lays "LackFerry$LogText" "LackFerry$LogText" "lines" "I") ∈ ab_G := ab_gm (tb_in1 (List.mem_of_getElem? (i := 212) rfl)) rfl
set_option maxRecDepth 100000 in
theorem kw_215 : (Jvm.Cond.classLink "LackFerry" (57 : Nat) "LackFerry$Draws") ∈ ab_G := ab_gm (tb_in1 (List.mem_of_getElem? (i := 215) rfl)) rfl
set_option maxRecDepth 100000 in
theorem kw_216 : (Jvm.Cond.instantiable "LackFerry$Draws" (1 : Nat)) ∈ ab_G := ab_gm (tb_in1 (List.mem_of_getElem? (i := 216) rfl)) rfl
set_option maxRecDepth 100000 in
theorem kw_218 : (Jvm.Cond.instanceMethod ({ cls := "LackFerry$Draws", name := "<init>", desc := "()V" } : Jvm.MethodName)) ∈ ab_G := ab_gm (tb_in1 (List.mem_of_getElem? (i := 218) rfl)) rfl
set_option maxRecDepth 100000 in
theorem kw_219 : (Jvm.Cond.code ({ cls := "LackFerry$Draws", name := "<init>", desc := "()V" } : Jvm.MethodName) prog_2_method_1_code (1 : Nat) (Option.none : Option Jvm.ClassFile.FieldType)) ∈ ab_G := ab_gm (tb_in1 (List.mem_of_getElem? (i := 219) rfl)) rfl
set_option maxRecDepth 100000 in
theorem kw_220 : (Jvm.Cond.methodLink "LackFerry$Draws" (1 : Nat) ({ cls := "java/lang/Object", name := "<init>", desc := "()V" } : Jvm.MethodName)) ∈ ab_G := ab_gm (tb_in1 (List.mem_of_getElem? (i := 220) rfl)) rfl
set_option maxRecDepth 100000 in
theorem kw_221 : (Jvm.Cond.fieldLink "LackFerry$Draws" (7 : Nat) "LackFerry$Draws" "x" "I") ∈ ab_G := ab_gm (tb_in1 (List.mem_of_getElem? (i := 221) rfl)) rfl
set_option maxRecDepth 100000 in
theorem kw_222 : (Jvm.Cond.fieldLink "LackFerry" (326 : Nat) "LackFerry$Draws" "x" "I") ∈ ab_G := ab_gm (tb_in1 (List.mem_of_getElem? (i := 222) rfl)) rfl
set_option maxRecDepth 100000 in
theorem kw_223 : (Jvm.Cond.lays "LackFerry$Draws" "LackFerry$Draws" "x" "I") ∈ ab_G := ab_gm (tb_in1 (List.mem_of_getElem? (i := 223) rfl)) rfl
set_option maxRecDepth 100000 in
theorem kw_226 : (Jvm.Cond.classLink "LackFerry" (64 : Nat) "LackFerry$Image") ∈ ab_G := ab_gm (tb_in1 (List.mem_of_getElem? (i := 226) rfl)) rfl
set_option maxRecDepth 100000 in
theorem kw_228 : (Jvm.Cond.classLink "LackFerry" (80 : Nat) "LackFerry$Strait") ∈ ab_G := ab_gm (tb_in1 (List.mem_of_getElem? (i := 228) rfl)) rfl
set_option maxRecDepth 100000 in
theorem kw_229 : (Jvm.Cond.instantiable "LackFerry$Strait" (13 : Nat)) ∈ ab_G := ab_gm (tb_in1 (List.mem_of_getElem? (i := 229) rfl)) rfl
set_option maxRecDepth 100000 in
theorem kw_231 : (Jvm.Cond.instanceMethod ({ cls := "LackFerry$Strait", name := "<init>", desc := "()V" } : Jvm.MethodName)) ∈ ab_G := ab_gm (tb_in1 (List.mem_of_getElem? (i := 231) rfl)) rfl
set_option maxRecDepth 100000 in
theorem kw_232 : (Jvm.Cond.code ({ cls := "LackFerry$Strait", name := "<init>", desc := "()V" } : Jvm.MethodName) prog_9_method_1_code (1 : Nat) (Option.none : Option Jvm.ClassFile.FieldType)) ∈ ab_G := ab_gm (tb_in1 (List.mem_of_getElem? (i := 232) rfl)) rfl
set_option maxRecDepth 100000 in
theorem kw_233 : (Jvm.Cond.methodLink "LackFerry$Strait" (3 : Nat) ({ cls := "java/lang/Object", name := "<init>", desc := "()V" } : Jvm.MethodName)) ∈ ab_G := ab_gm (tb_in1 (List.mem_of_getElem? (i := 233) rfl)) rfl
set_option maxRecDepth 100000 in
theorem kw_234 : (Jvm.Cond.fieldLink "LackFerry$Strait" (9 : Nat) "LackFerry$Strait" "goodNames" "[J") ∈ ab_G := ab_gm (tb_in1 (List.mem_of_getElem? (i := 234) rfl)) rfl
set_option maxRecDepth 100000 in
theorem kw_235 : (Jvm.Cond.fieldLink "LackFerry$Strait" (15 : Nat) "LackFerry$Strait" "manNames" "[J") ∈ ab_G := ab_gm (tb_in1 (List.mem_of_getElem? (i := 235) rfl)) rfl
set_option maxRecDepth 100000 in
theorem kw_236 : (Jvm.Cond.fieldLink "LackFerry$Strait" (18 : Nat) "LackFerry$Strait" "firstShores" "[I") ∈ ab_G := ab_gm (tb_in1 (List.mem_of_getElem? (i := 236) rfl)) rfl
set_option maxRecDepth 100000 in
theorem kw_237 : (Jvm.Cond.fieldLink "LackFerry$Shores" (39 : Nat) "LackFerry$Strait" "firstShores" "[I") ∈ ab_G := ab_gm (tb_in1 (List.mem_of_getElem? (i := 237) rfl)) rfl
set_option maxRecDepth 100000 in
theorem kw_238 : (Jvm.Cond.fieldLink "LackFerry$Strait" (22 : Nat) "LackFerry$Strait" "amounts" "[I") ∈ ab_G := ab_gm (tb_in1 (List.mem_of_getElem? (i := 238) rfl)) rfl
set_option maxRecDepth 100000 in
theorem kw_239 : (Jvm.Cond.fieldLink "LackFerry$Strait" (25 : Nat) "LackFerry$Strait" "missers" "[I") ∈ ab_G := ab_gm (tb_in1 (List.mem_of_getElem? (i := 239) rfl)) rfl
set_option maxRecDepth 100000 in
theorem kw_240 : (Jvm.Cond.fieldLink "LackFerry$Shores" (66 : Nat) "LackFerry$Strait" "missers" "[I") ∈ ab_G := ab_gm (tb_in2 (List.mem_of_getElem? (i := 0) rfl)) rfl
set_option maxRecDepth 100000 in
theorem kw_241 : (Jvm.Cond.fieldLink "LackFerry$Strait" (28 : Nat) "LackFerry$Strait" "missed" "[I") ∈ ab_G := ab_gm (tb_in2 (List.mem_of_getElem? (i := 1) rfl)) rfl
set_option maxRecDepth 100000 in
theorem kw_242 : (Jvm.Cond.fieldLink "LackFerry$Shores" (69 : Nat) "LackFerry$Strait" "missed" "[I") ∈ ab_G := ab_gm (tb_in2 (List.mem_of_getElem? (i := 2) rfl)) rfl
set_option maxRecDepth 100000 in
theorem kw_243 : (Jvm.Cond.fieldLink "LackFerry$Strait" (31 : Nat) "LackFerry$Strait" "missDays" "[I") ∈ ab_G := ab_gm (tb_in2 (List.mem_of_getElem? (i := 3) rfl)) rfl
set_option maxRecDepth 100000 in
theorem kw_244 : (Jvm.Cond.fieldLink "LackFerry$Shores" (75 : Nat) "LackFerry$Strait" "missDays" "[I") ∈ ab_G := ab_gm (tb_in2 (List.mem_of_getElem? (i := 4) rfl)) rfl
set_option maxRecDepth 100000 in
theorem kw_245 : (Jvm.Cond.fieldLink "LackFerry$Strait" (34 : Nat) "LackFerry$Strait" "load" "I") ∈ ab_G := ab_gm (tb_in2 (List.mem_of_getElem? (i := 5) rfl)) rfl
set_option maxRecDepth 100000 in
theorem kw_246 : (Jvm.Cond.fieldLink "LackFerry$Ferry" (37 : Nat) "LackFerry$Strait" "load" "I") ∈ ab_G := ab_gm (tb_in2 (List.mem_of_getElem? (i := 6) rfl)) rfl
set_option maxRecDepth 100000 in
theorem kw_247 : (Jvm.Cond.fieldLink "LackFerry" (241 : Nat) "LackFerry$Strait" "load" "I") ∈ ab_G := ab_gm (tb_in2 (List.mem_of_getElem? (i := 7) rfl)) rfl
set_option maxRecDepth 100000 in
theorem kw_248 : (Jvm.Cond.fieldLink "LackFerry$Ferry" (58 : Nat) "LackFerry$Strait" "goods" "I") ∈ ab_G := ab_gm (tb_in2 (List.mem_of_getElem? (i := 8) rfl)) rfl
set_option maxRecDepth 100000 in
theorem kw_249 : (Jvm.Cond.fieldLink "LackFerry$Strait" (56 : Nat) "LackFerry$Strait" "goods" "I") ∈ ab_G := ab_gm (tb_in2 (List.mem_of_getElem? (i := 9) rfl)) rfl
set_option maxRecDepth 100000 in
theorem kw_250 : (Jvm.Cond.fieldLink "LackFerry" (136 : Nat) "LackFerry$Strait" "goods" "I") ∈ ab_G := ab_gm (tb_in2 (List.mem_of_getElem? (i := 10) rfl)) rfl
set_option maxRecDepth 100000 in
theorem kw_251 : (Jvm.Cond.fieldLink "LackFerry$Shores" (97 : Nat) "LackFerry$Strait" "goods" "I") ∈ ab_G := ab_gm (tb_in2 (List.mem_of_getElem? (i := 11) rfl)) rfl
set_option maxRecDepth 100000 in
theorem kw_252 : (Jvm.Cond.fieldLink "LackFerry$Ferry" (52 : Nat) "LackFerry$Strait" "men" "I") ∈ ab_G := ab_gm (tb_in2 (List.mem_of_getElem? (i := 12) rfl)) rfl
set_option maxRecDepth 100000 in
theorem kw_253 : (Jvm.Cond.fieldLink "LackFerry$Strait" (59 : Nat) "LackFerry$Strait" "men" "I") ∈ ab_G := ab_gm (tb_in2 (List.mem_of_getElem? (i := 13) rfl)) rfl
set_option maxRecDepth 100000 in
theorem kw_254 : (Jvm.Cond.fieldLink "LackFerry" (146 : Nat) "LackFerry$Strait" "men" "I") ∈ ab_G := ab_gm (tb_in2 (List.mem_of_getElem? (i := 14) rfl)) rfl
set_option maxRecDepth 100000 in
theorem kw_255 : (Jvm.Cond.fieldLink "LackFerry$Shores" (63 : Nat) "LackFerry$Strait" "men" "I") ∈ ab_G := ab_gm (tb_in2 (List.mem_of_getElem? (i := 15) rfl)) rfl
set_option maxRecDepth 100000 in
theorem kw_256 : (Jvm.Cond.fieldLink "LackFerry$Strait" (62 : Nat) "LackFerry$Strait" "missings" "I") ∈ ab_G := ab_gm (tb_in2 (List.mem_of_getElem? (i := 16) rfl)) rfl
set_option maxRecDepth 100000 in
theorem kw_257 : (Jvm.Cond.fieldLink "LackFerry$Shores" (78 : Nat) "LackFerry$Strait" "missings" "I") ∈ ab_G := ab_gm (tb_in2 (List.mem_of_getElem? (i := 17) rfl)) rfl
set_option maxRecDepth 100000 in
theorem kw_258 : (Jvm.Cond.fieldLink "LackFerry" (244 : Nat) "LackFerry$Strait" "missings" "I") ∈ ab_G := ab_gm (tb_in2 (List.mem_of_getElem? (i := 18) rfl)) rfl
set_option maxRecDepth 100000 in
theorem kw_259 : (Jvm.Cond.fieldLink "LackFerry$Strait" (65 : Nat) "LackFerry$Strait" "isLoadTold" "Z") ∈ ab_G := ab_gm (tb_in2 (List.mem_of_getElem? (i := 19) rfl)) rfl
set_option maxRecDepth 100000 in
theorem kw_260 : (Jvm.Cond.fieldLink "LackFerry$Strait" (69 : Nat) "LackFerry$Strait" "amountsTold" "J") ∈ ab_G := ab_gm (tb_in2 (List.mem_of_getElem? (i := 20) rfl)) rfl
set_option maxRecDepth 100000 in
theorem kw_261 : (Jvm.Cond.laysFinal "LackFerry$Strait" "LackFerry$Strait" "goodNames" "[J") ∈ ab_G := ab_gm (tb_in2 (List.mem_of_getElem? (i := 21) rfl)) rfl
set_option maxRecDepth 100000 in
theorem kw_263 : (Jvm.Cond.laysFinal "LackFerry$Strait" "LackFerry$Strait" "manNames" "[J") ∈ ab_G := ab_gm (tb_in2 (List.mem_of_getElem? (i := 23) rfl)) rfl
set_option maxRecDepth 100000 in
theorem kw_265 : (Jvm.Cond.laysFinal "LackFerry$Strait" "LackFerry$Strait" "firstShores" "[I") ∈ ab_G := ab_gm (tb_in2 (List.mem_of_getElem? (i := 25) rfl)) rfl
set_option maxRecDepth 100000 in
theorem kw_267 : (Jvm.Cond.laysFinal "LackFerry$Strait" "LackFerry$Strait" "amounts" "[I") ∈ ab_G := ab_gm (tb_in2 (List.mem_of_getElem? (i := 27) rfl)) rfl
set_option maxRecDepth 100000 in
theorem kw_269 : (Jvm.Cond.laysFinal "LackFerry$Strait" "LackFerry$Strait" "missers" "[I") ∈ ab_G := ab_gm (tb_in2 (List.mem_of_getElem? (i := 29) rfl)) rfl
set_option maxRecDepth 100000 in
theorem kw_271 : (Jvm.Cond.laysFinal "LackFerry$Strait" "LackFerry$Strait" "missed" "[I") ∈ ab_G := ab_gm (tb_in2 (List.mem_of_getElem? (i := 31) rfl)) rfl
set_option maxRecDepth 100000 in
theorem kw_273 : (Jvm.Cond.laysFinal "LackFerry$Strait" "LackFerry$Strait" "missDays" "[I") ∈ ab_G := ab_gm (tb_in2 (List.mem_of_getElem? (i := 33) rfl)) rfl
set_option maxRecDepth 100000 in
theorem kw_275 : (Jvm.Cond.lays "LackFerry$Strait" "LackFerry$Strait" "load" "I") ∈ ab_G := ab_gm (tb_in2 (List.mem_of_getElem? (i := 35) rfl)) rfl
set_option maxRecDepth 100000 in
theorem kw_277 : (Jvm.Cond.lays "LackFerry$Strait" "LackFerry$Strait" "goods" "I") ∈ ab_G := ab_gm (tb_in2 (List.mem_of_getElem? (i := 37) rfl)) rfl
set_option maxRecDepth 100000 in
theorem kw_279 : (Jvm.Cond.lays "LackFerry$Strait" "LackFerry$Strait" "men" "I") ∈ ab_G := ab_gm (tb_in2 (List.mem_of_getElem? (i := 39) rfl)) rfl
set_option maxRecDepth 100000 in
theorem kw_281 : (Jvm.Cond.lays "LackFerry$Strait" "LackFerry$Strait" "missings" "I") ∈ ab_G := ab_gm (tb_in2 (List.mem_of_getElem? (i := 41) rfl)) rfl
set_option maxRecDepth 100000 in
theorem kw_283 : (Jvm.Cond.lays "LackFerry$Strait" "LackFerry$Strait" "isLoadTold" "Z") ∈ ab_G := ab_gm (tb_in2 (List.mem_of_getElem? (i := 43) rfl)) rfl
set_option maxRecDepth 100000 in
theorem kw_285 : (Jvm.Cond.lays "LackFerry$Strait" "LackFerry$Strait" "amountsTold" "J") ∈ ab_G := ab_gm (tb_in2 (List.mem_of_getElem? (i := 45) rfl)) rfl
set_option maxRecDepth 100000 in
theorem kw_288 : (Jvm.Cond.classLink "LackFerry" (90 : Nat) "LackFerry$Sentence") ∈ ab_G := ab_gm (tb_in2 (List.mem_of_getElem? (i := 48) rfl)) rfl
set_option maxRecDepth 100000 in
theorem kw_289 : (Jvm.Cond.instantiable "LackFerry$Sentence" (6 : Nat)) ∈ ab_G := ab_gm (tb_in2 (List.mem_of_getElem? (i := 49) rfl)) rfl
set_option maxRecDepth 100000 in
theorem kw_291 : (Jvm.Cond.instanceMethod ({ cls := "LackFerry$Sentence", name := "<init>", desc := "()V" } : Jvm.MethodName)) ∈ ab_G := ab_gm (tb_in2 (List.mem_of_getElem? (i := 51) rfl)) rfl
set_option maxRecDepth 100000 in
theorem kw_292 : (Jvm.Cond.code ({ cls := "LackFerry$Sentence", name := "<init>", desc := "()V" } : Jvm.MethodName) prog_7_method_1_code (1 : Nat) (Option.none : Option Jvm.ClassFile.FieldType)) ∈ ab_G := ab_gm (tb_in2 (List.mem_of_getElem? (i := 52) rfl)) rfl
set_option maxRecDepth 100000 in
theorem kw_293 : (Jvm.Cond.methodLink "LackFerry$Sentence" (3 : Nat) ({ cls := "java/lang/Object", name := "<init>", desc := "()V" } : Jvm.MethodName)) ∈ ab_G := ab_gm (tb_in2 (List.mem_of_getElem? (i := 53) rfl)) rfl
set_option maxRecDepth 100000 in
theorem kw_294 : (Jvm.Cond.fieldLink "LackFerry$Sentence" (11 : Nat) "LackFerry$Sentence" "ops" "[I") ∈ ab_G := ab_gm (tb_in2 (List.mem_of_getElem? (i := 54) rfl)) rfl
set_option maxRecDepth 100000 in
theorem kw_295 : (Jvm.Cond.fieldLink "LackFerry$Sentence" (15 : Nat) "LackFerry$Sentence" "firsts" "[I") ∈ ab_G := ab_gm (tb_in2 (List.mem_of_getElem? (i := 55) rfl)) rfl
set_option maxRecDepth 100000 in
theorem kw_296 : (Jvm.Cond.fieldLink "LackFerry$Sentence" (18 : Nat) "LackFerry$Sentence" "numbers" "[I") ∈ ab_G := ab_gm (tb_in2 (List.mem_of_getElem? (i := 56) rfl)) rfl
set_option maxRecDepth 100000 in
theorem kw_297 : (Jvm.Cond.fieldLink "LackFerry$Sentence" (27 : Nat) "LackFerry$Sentence" "size" "I") ∈ ab_G := ab_gm (tb_in2 (List.mem_of_getElem? (i := 57) rfl)) rfl
set_option maxRecDepth 100000 in
theorem kw_298 : (Jvm.Cond.fieldLink "LackFerry$Sentence" (31 : Nat) "LackFerry$Sentence" "ones" "I") ∈ ab_G := ab_gm (tb_in2 (List.mem_of_getElem? (i := 58) rfl)) rfl
set_option maxRecDepth 100000 in
theorem kw_299 : (Jvm.Cond.fieldLink "LackFerry" (365 : Nat) "LackFerry$Sentence" "ones" "I") ∈ ab_G := ab_gm (tb_in2 (List.mem_of_getElem? (i := 59) rfl)) rfl
set_option maxRecDepth 100000 in
theorem kw_300 : (Jvm.Cond.fieldLink "LackFerry$Sentence" (34 : Nat) "LackFerry$Sentence" "isSaid" "Z") ∈ ab_G := ab_gm (tb_in2 (List.mem_of_getElem? (i := 60) rfl)) rfl
set_option maxRecDepth 100000 in
theorem kw_301 : (Jvm.Cond.fieldLink "LackFerry" (129 : Nat) "LackFerry$Sentence" "isSaid" "Z") ∈ ab_G := ab_gm (tb_in2 (List.mem_of_getElem? (i := 61) rfl)) rfl
set_option maxRecDepth 100000 in
theorem kw_302 : (Jvm.Cond.laysFinal "LackFerry$Sentence" "LackFerry$Sentence" "ops" "[I") ∈ ab_G := ab_gm (tb_in2 (List.mem_of_getElem? (i := 62) rfl)) rfl
set_option maxRecDepth 100000 in
theorem kw_304 : (Jvm.Cond.laysFinal "LackFerry$Sentence" "LackFerry$Sentence" "firsts" "[I") ∈ ab_G := ab_gm (tb_in2 (List.mem_of_getElem? (i := 64) rfl)) rfl
set_option maxRecDepth 100000 in
theorem kw_306 : (Jvm.Cond.laysFinal "LackFerry$Sentence" "LackFerry$Sentence" "numbers" "[I") ∈ ab_G := ab_gm (tb_in2 (List.mem_of_getElem? (i := 66) rfl)) rfl
set_option maxRecDepth 100000 in
theorem kw_308 : (Jvm.Cond.lays "LackFerry$Sentence" "LackFerry$Sentence" "size" "I") ∈ ab_G := ab_gm (tb_in2 (List.mem_of_getElem? (i := 68) rfl)) rfl
set_option maxRecDepth 100000 in
theorem kw_310 : (Jvm.Cond.lays "LackFerry$Sentence" "LackFerry$Sentence" "ones" "I") ∈ ab_G := ab_gm (tb_in2 (List.mem_of_getElem? (i := 70) rfl)) rfl
set_option maxRecDepth 100000 in
theorem kw_312 : (Jvm.Cond.lays "LackFerry$Sentence" "LackFerry$Sentence" "isSaid" "Z") ∈ ab_G := ab_gm (tb_in2 (List.mem_of_getElem? (i := 72) rfl)) rfl
set_option maxRecDepth 100000 in
theorem kw_315 : (Jvm.Cond.fieldLink "LackFerry" (12 : Nat) "LackFerry" "tape" "LLackFerry$Tape;") ∈ ab_G := ab_gm (tb_in2 (List.mem_of_getElem? (i := 75) rfl)) rfl
set_option maxRecDepth 100000 in
theorem kw_316 : (Jvm.Cond.fieldLink "LackFerry" (19 : Nat) "LackFerry" "tokens" "LLackFerry$Tokens;") ∈ ab_G := ab_gm (tb_in2 (List.mem_of_getElem? (i := 76) rfl)) rfl
set_option maxRecDepth 100000 in
theorem kw_317 : (Jvm.Cond.fieldLink "LackFerry" (26 : Nat) "LackFerry" "ferry" "LLackFerry$Ferry;") ∈ ab_G := ab_gm (tb_in2 (List.mem_of_getElem? (i := 77) rfl)) rfl
set_option maxRecDepth 100000 in
theorem kw_318 : (Jvm.Cond.fieldLink "LackFerry" (33 : Nat) "LackFerry" "history" "LLackFerry$History;") ∈ ab_G := ab_gm (tb_in2 (List.mem_of_getElem? (i := 78) rfl)) rfl
set_option maxRecDepth 100000 in
theorem kw_319 : (Jvm.Cond.fieldLink "LackFerry" (40 : Nat) "LackFerry" "present" "LLackFerry$Shores;") ∈ ab_G := ab_gm (tb_in2 (List.mem_of_getElem? (i := 79) rfl)) rfl
set_option maxRecDepth 100000 in
theorem kw_320 : (Jvm.Cond.fieldLink "LackFerry" (44 : Nat) "LackFerry" "ahead" "LLackFerry$Shores;") ∈ ab_G := ab_gm (tb_in2 (List.mem_of_getElem? (i := 80) rfl)) rfl
set_option maxRecDepth 100000 in
theorem kw_321 : (Jvm.Cond.fieldLink "LackFerry" (47 : Nat) "LackFerry" "behind" "LLackFerry$Shores;") ∈ ab_G := ab_gm (tb_in2 (List.mem_of_getElem? (i := 81) rfl)) rfl
set_option maxRecDepth 100000 in
theorem kw_322 : (Jvm.Cond.fieldLink "LackFerry" (53 : Nat) "LackFerry" "logText" "LLackFerry$LogText;") ∈ ab_G := ab_gm (tb_in2 (List.mem_of_getElem? (i := 82) rfl)) rfl
set_option maxRecDepth 100000 in
theorem kw_323 : (Jvm.Cond.fieldLink "LackFerry" (60 : Nat) "LackFerry" "draws" "LLackFerry$Draws;") ∈ ab_G := ab_gm (tb_in2 (List.mem_of_getElem? (i := 83) rfl)) rfl
set_option maxRecDepth 100000 in
theorem kw_324 : (Jvm.Cond.fieldLink "LackFerry" (66 : Nat) "LackFerry" "images" "[LLackFerry$Image;") ∈ ab_G := ab_gm (tb_in2 (List.mem_of_getElem? (i := 84) rfl)) rfl
set_option maxRecDepth 100000 in
theorem kw_325 : (Jvm.Cond.fieldLink "LackFerry" (70 : Nat) "LackFerry" "priceAt" "[I") ∈ ab_G := ab_gm (tb_in2 (List.mem_of_getElem? (i := 85) rfl)) rfl
set_option maxRecDepth 100000 in
theorem kw_326 : (Jvm.Cond.fieldLink "LackFerry" (74 : Nat) "LackFerry" "roomOnDay" "[I") ∈ ab_G := ab_gm (tb_in2 (List.mem_of_getElem? (i := 86) rfl)) rfl
set_option maxRecDepth 100000 in
theorem kw_327 : (Jvm.Cond.fieldLink "LackFerry" (77 : Nat) "LackFerry" "logFacts" "[I") ∈ ab_G := ab_gm (tb_in2 (List.mem_of_getElem? (i := 87) rfl)) rfl
set_option maxRecDepth 100000 in
theorem kw_328 : (Jvm.Cond.fieldLink "LackFerry" (83 : Nat) "LackFerry" "told" "LLackFerry$Strait;") ∈ ab_G := ab_gm (tb_in2 (List.mem_of_getElem? (i := 88) rfl)) rfl
set_option maxRecDepth 100000 in
theorem kw_329 : (Jvm.Cond.fieldLink "LackFerry" (87 : Nat) "LackFerry" "straitDraft" "LLackFerry$Strait;") ∈ ab_G := ab_gm (tb_in2 (List.mem_of_getElem? (i := 89) rfl)) rfl
set_option maxRecDepth 100000 in
theorem kw_330 : (Jvm.Cond.fieldLink "LackFerry" (93 : Nat) "LackFerry" "spoken" "LLackFerry$Sentence;") ∈ ab_G := ab_gm (tb_in2 (List.mem_of_getElem? (i := 90) rfl)) rfl
set_option maxRecDepth 100000 in
theorem kw_331 : (Jvm.Cond.fieldLink "LackFerry" (97 : Nat) "LackFerry" "sentenceDraft" "LLackFerry$Sentence;") ∈ ab_G := ab_gm (tb_in2 (List.mem_of_getElem? (i := 91) rfl)) rfl
set_option maxRecDepth 100000 in
theorem kw_332 : (Jvm.Cond.fieldLink "LackFerry" (315 : Nat) "LackFerry" "pricedGoods" "I") ∈ ab_G := ab_gm (tb_in2 (List.mem_of_getElem? (i := 92) rfl)) rfl
set_option maxRecDepth 100000 in
theorem kw_333 : (Jvm.Cond.fieldLink "LackFerry" (119 : Nat) "LackFerry" "latestFault" "I") ∈ ab_G := ab_gm (tb_in2 (List.mem_of_getElem? (i := 93) rfl)) rfl
set_option maxRecDepth 100000 in
theorem kw_334 : (Jvm.Cond.laysFinal "LackFerry" "LackFerry" "tape" "LLackFerry$Tape;") ∈ ab_G := ab_gm (tb_in2 (List.mem_of_getElem? (i := 94) rfl)) rfl
set_option maxRecDepth 100000 in
theorem kw_336 : (Jvm.Cond.laysFinal "LackFerry" "LackFerry" "tokens" "LLackFerry$Tokens;") ∈ ab_G := ab_gm (tb_in2 (List.mem_of_getElem? (i := 96) rfl)) rfl
set_option maxRecDepth 100000 in
theorem kw_338 : (Jvm.Cond.laysFinal "LackFerry" "LackFerry" "ferry" "LLackFerry$Ferry;") ∈ ab_G := ab_gm (tb_in2 (List.mem_of_getElem? (i := 98) rfl)) rfl
set_option maxRecDepth 100000 in
theorem kw_340 : (Jvm.Cond.laysFinal "LackFerry" "LackFerry" "history" "LLackFerry$History;") ∈ ab_G := ab_gm (tb_in2 (List.mem_of_getElem? (i := 100) rfl)) rfl
set_option maxRecDepth 100000 in
theorem kw_342 : (Jvm.Cond.laysFinal "LackFerry" "LackFerry" "present" "LLackFerry$Shores;") ∈ ab_G := ab_gm (tb_in2 (List.mem_of_getElem? (i := 102) rfl)) rfl
set_option maxRecDepth 100000 in
theorem kw_344 : (Jvm.Cond.laysFinal "LackFerry" "LackFerry" "ahead" "LLackFerry$Shores;") ∈ ab_G := ab_gm (tb_in2 (List.mem_of_getElem? (i := 104) rfl)) rfl
set_option maxRecDepth 100000 in
theorem kw_346 : (Jvm.Cond.laysFinal "LackFerry" "LackFerry" "behind" "LLackFerry$Shores;") ∈ ab_G := ab_gm (tb_in2 (List.mem_of_getElem? (i := 106) rfl)) rfl
set_option maxRecDepth 100000 in
theorem kw_348 : (Jvm.Cond.laysFinal "LackFerry" "LackFerry" "logText" "LLackFerry$LogText;") ∈ ab_G := ab_gm (tb_in2 (List.mem_of_getElem? (i := 108) rfl)) rfl
set_option maxRecDepth 100000 in
theorem kw_350 : (Jvm.Cond.laysFinal "LackFerry" "LackFerry" "draws" "LLackFerry$Draws;") ∈ ab_G := ab_gm (tb_in2 (List.mem_of_getElem? (i := 110) rfl)) rfl
set_option maxRecDepth 100000 in
theorem kw_352 : (Jvm.Cond.laysFinal "LackFerry" "LackFerry" "images" "[LLackFerry$Image;") ∈ ab_G := ab_gm (tb_in2 (List.mem_of_getElem? (i := 112) rfl)) rfl
set_option maxRecDepth 100000 in
theorem kw_354 : (Jvm.Cond.laysFinal "LackFerry" "LackFerry" "priceAt" "[I") ∈ ab_G := ab_gm (tb_in2 (List.mem_of_getElem? (i := 114) rfl)) rfl
set_option maxRecDepth 100000 in
theorem kw_356 : (Jvm.Cond.laysFinal "LackFerry" "LackFerry" "roomOnDay" "[I") ∈ ab_G := ab_gm (tb_in2 (List.mem_of_getElem? (i := 116) rfl)) rfl
set_option maxRecDepth 100000 in
theorem kw_358 : (Jvm.Cond.laysFinal "LackFerry" "LackFerry" "logFacts" "[I") ∈ ab_G := ab_gm (tb_in2 (List.mem_of_getElem? (i := 118) rfl)) rfl
set_option maxRecDepth 100000 in
theorem kw_360 : (Jvm.Cond.lays "LackFerry" "LackFerry" "told" "LLackFerry$Strait;") ∈ ab_G := ab_gm (tb_in2 (List.mem_of_getElem? (i := 120) rfl)) rfl
set_option maxRecDepth 100000 in
theorem kw_362 : (Jvm.Cond.lays "LackFerry" "LackFerry" "straitDraft" "LLackFerry$Strait;") ∈ ab_G := ab_gm (tb_in2 (List.mem_of_getElem? (i := 122) rfl)) rfl
set_option maxRecDepth 100000 in
theorem kw_364 : (Jvm.Cond.lays "LackFerry" "LackFerry" "spoken" "LLackFerry$Sentence;") ∈ ab_G := ab_gm (tb_in2 (List.mem_of_getElem? (i := 124) rfl)) rfl
set_option maxRecDepth 100000 in
theorem kw_366 : (Jvm.Cond.lays "LackFerry" "LackFerry" "sentenceDraft" "LLackFerry$Sentence;") ∈ ab_G := ab_gm (tb_in2 (List.mem_of_getElem? (i := 126) rfl)) rfl
set_option maxRecDepth 100000 in
theorem kw_368 : (Jvm.Cond.lays "LackFerry" "LackFerry" "pricedGoods" "I") ∈ ab_G := ab_gm (tb_in2 (List.mem_of_getElem? (i := 128) rfl)) rfl
set_option maxRecDepth 100000 in
theorem kw_370 : (Jvm.Cond.lays "LackFerry" "LackFerry" "latestFault" "I") ∈ ab_G := ab_gm (tb_in2 (List.mem_of_getElem? (i := 130) rfl)) rfl
set_option maxRecDepth 100000 in
theorem kw_373 : (Jvm.Cond.methodLink "LackFerryLaw" (19 : Nat) ({ cls := "LackFerry", name := "feed", desc := "(IIIII)I" } : Jvm.MethodName)) ∈ ab_G := ab_gm (tb_in2 (List.mem_of_getElem? (i := 133) rfl)) rfl
set_option maxRecDepth 100000 in
theorem kw_374 : (Jvm.Cond.instanceMethod ({ cls := "LackFerry", name := "feed", desc := "(IIIII)I" } : Jvm.MethodName)) ∈ ab_G := ab_gm (tb_in2 (List.mem_of_getElem? (i := 134) rfl)) rfl
set_option maxRecDepth 100000 in
theorem kw_375 : (Jvm.Cond.selects "LackFerry" ({ cls := "LackFerry", name := "feed", desc := "(IIIII)I" } : Jvm.MethodName) ({ cls := "LackFerry", name := "feed", desc := "(IIIII)I" } : Jvm.MethodName)) ∈ ab_G := ab_gm (tb_in2 (List.mem_of_getElem? (i := 135) rfl)) rfl
set_option maxRecDepth 100000 in
theorem kw_376 : (Jvm.Cond.code ({ cls := "LackFerry", name := "feed", desc := "(IIIII)I" } : Jvm.MethodName) prog_1_method_2_code (6 : Nat) (Option.some Jvm.ClassFile.FieldType.int)) ∈ ab_G := ab_gm (tb_in2 (List.mem_of_getElem? (i := 136) rfl)) rfl
set_option maxRecDepth 100000 in
theorem kw_377 : (Jvm.Cond.methodLink "LackFerry" (104 : Nat) ({ cls := "LackFerry$Tape", name := "put", desc := "(I)V" } : Jvm.MethodName)) ∈ ab_G := ab_gm (tb_in2 (List.mem_of_getElem? (i := 137) rfl)) rfl
set_option maxRecDepth 100000 in
theorem kw_378 : (Jvm.Cond.instanceMethod ({ cls := "LackFerry$Tape", name := "put", desc := "(I)V" } : Jvm.MethodName)) ∈ ab_G := ab_gm (tb_in2 (List.mem_of_getElem? (i := 138) rfl)) rfl
set_option maxRecDepth 100000 in
theorem kw_379 : (Jvm.Cond.selects "LackFerry$Tape" ({ cls := "LackFerry$Tape", name := "put", desc := "(I)V" } : Jvm.MethodName) ({ cls := "LackFerry$Tape", name := "put", desc := "(I)V" } : Jvm.MethodName)) ∈ ab_G := ab_gm (tb_in2 (List.mem_of_getElem? (i := 139) rfl)) rfl
set_option maxRecDepth 100000 in
theorem kw_380 : (Jvm.Cond.code ({ cls := "LackFerry$Tape", name := "put", desc := "(I)V" } : Jvm.MethodName) prog_10_method_2_code (3 : Nat) (Option.none : Option Jvm.ClassFile.FieldType)) ∈ ab_G := ab_gm (tb_in2 (List.mem_of_getElem? (i := 140) rfl)) rfl
set_option maxRecDepth 100000 in
theorem kw_381 : (Jvm.Cond.methodLink "LackFerryLaw" (24 : Nat) ({ cls := "LackFerry", name := "end", desc := "(I)Z" } : Jvm.MethodName)) ∈ ab_G := ab_gm (tb_in2 (List.mem_of_getElem? (i := 141) rfl)) rfl
set_option maxRecDepth 100000 in
theorem kw_382 : (Jvm.Cond.instanceMethod ({ cls := "LackFerry", name := "end", desc := "(I)Z" } : Jvm.MethodName)) ∈ ab_G := ab_gm (tb_in2 (List.mem_of_getElem? (i := 142) rfl)) rfl
set_option maxRecDepth 100000 in
theorem kw_383 : (Jvm.Cond.selects "LackFerry" ({ cls := "LackFerry", name := "end", desc := "(I)Z" } : Jvm.MethodName) ({ cls := "LackFerry", name := "end", desc := "(I)Z" } : Jvm.MethodName)) ∈ ab_G := ab_gm (tb_in2 (List.mem_of_getElem? (i := 143) rfl)) rfl
set_option maxRecDepth 100000 in
theorem kw_384 : (Jvm.Cond.code ({ cls := "LackFerry", name := "end", desc := "(I)Z" } : Jvm.MethodName) prog_1_method_3_code (2 : Nat) (Option.some Jvm.ClassFile.FieldType.boolean)) ∈ ab_G := ab_gm (tb_in2 (List.mem_of_getElem? (i := 144) rfl)) rfl
set_option maxRecDepth 100000 in
theorem kw_385 : (Jvm.Cond.methodLink "LackFerryLaw" (29 : Nat) ({ cls := "LackFerry", name := "strait", desc := "()I" } : Jvm.MethodName)) ∈ ab_G := ab_gm (tb_in2 (List.mem_of_getElem? (i := 145) rfl)) rfl
set_option maxRecDepth 100000 in
theorem kw_386 : (Jvm.Cond.instanceMethod ({ cls := "LackFerry", name := "strait", desc := "()I" } : Jvm.MethodName)) ∈ ab_G := ab_gm (tb_in2 (List.mem_of_getElem? (i := 146) rfl)) rfl
set_option maxRecDepth 100000 in
theorem kw_387 : (Jvm.Cond.selects "LackFerry" ({ cls := "LackFerry", name := "strait", desc := "()I" } : Jvm.MethodName) ({ cls := "LackFerry", name := "strait", desc := "()I" } : Jvm.MethodName)) ∈ ab_G := ab_gm (tb_in2 (List.mem_of_getElem? (i := 147) rfl)) rfl
set_option maxRecDepth 100000 in
theorem kw_388 : (Jvm.Cond.code ({ cls := "LackFerry", name := "strait", desc := "()I" } : Jvm.MethodName) prog_1_method_4_code (3 : Nat) (Option.some Jvm.ClassFile.FieldType.int)) ∈ ab_G := ab_gm (tb_in2 (List.mem_of_getElem? (i := 148) rfl)) rfl
set_option maxRecDepth 100000 in
theorem kw_389 : (Jvm.Cond.methodLink "LackFerry" (108 : Nat) ({ cls := "LackFerry$Tape", name := "moveInto", desc := "(LLackFerry$Tokens;I)V" } : Jvm.MethodName)) ∈ ab_G := ab_gm (tb_in2 (List.mem_of_getElem? (i := 149) rfl)) rfl
set_option maxRecDepth 100000 in
theorem kw_390 : (Jvm.Cond.instanceMethod ({ cls := "LackFerry$Tape", name := "moveInto", desc := "(LLackFerry$Tokens;I)V" } : Jvm.MethodName)) ∈ ab_G := ab_gm (tb_in2 (List.mem_of_getElem? (i := 150) rfl)) rfl
set_option maxRecDepth 100000 in
theorem kw_391 : (Jvm.Cond.selects "LackFerry$Tape" ({ cls := "LackFerry$Tape", name := "moveInto", desc := "(LLackFerry$Tokens;I)V" } : Jvm.MethodName) ({ cls := "LackFerry$Tape", name := "moveInto", desc := "(LLackFerry$Tokens;I)V" } : Jvm.MethodName)) ∈ ab_G := ab_gm (tb_in2 (List.mem_of_getElem? (i := 151) rfl)) rfl
set_option maxRecDepth 100000 in
theorem kw_392 : (Jvm.Cond.code ({ cls := "LackFerry$Tape", name := "moveInto", desc := "(LLackFerry$Tokens;I)V" } : Jvm.MethodName) prog_10_method_4_code (5 : Nat) (Option.none : Option Jvm.ClassFile.FieldType)) ∈ ab_G := ab_gm (tb_in2 (List.mem_of_getElem? (i := 152) rfl)) rfl
set_option maxRecDepth 100000 in
theorem kw_393 : (Jvm.Cond.methodLink "LackFerry$Tape" (19 : Nat) ({ cls := "LackFerry$Tokens", name := "clear", desc := "()V" } : Jvm.MethodName)) ∈ ab_G := ab_gm (tb_in2 (List.mem_of_getElem? (i := 153) rfl)) rfl
set_option maxRecDepth 100000 in
theorem kw_394 : (Jvm.Cond.instanceMethod ({ cls := "LackFerry$Tokens", name := "clear", desc := "()V" } : Jvm.MethodName)) ∈ ab_G := ab_gm (tb_in2 (List.mem_of_getElem? (i := 154) rfl)) rfl
set_option maxRecDepth 100000 in
theorem kw_395 : (Jvm.Cond.selects "LackFerry$Tokens" ({ cls := "LackFerry$Tokens", name := "clear", desc := "()V" } : Jvm.MethodName) ({ cls := "LackFerry$Tokens", name := "clear", desc := "()V" } : Jvm.MethodName)) ∈ ab_G := ab_gm (tb_in2 (List.mem_of_getElem? (i := 155) rfl)) rfl
set_option maxRecDepth 100000 in
theorem kw_396 : (Jvm.Cond.code ({ cls := "LackFerry$Tokens", name := "clear", desc := "()V" } : Jvm.MethodName) prog_11_method_2_code (1 : Nat) (Option.none : Option Jvm.ClassFile.FieldType)) ∈ ab_G := ab_gm (tb_in2 (List.mem_of_getElem? (i := 156) rfl)) rfl
set_option maxRecDepth 100000 in
theorem kw_397 : (Jvm.Cond.methodLink "LackFerry$Tape" (27 : Nat) ({ cls := "LackFerry$Tape", name := "skipBlanks", desc := "()V" } : Jvm.MethodName)) ∈ ab_G := ab_gm (tb_in2 (List.mem_of_getElem? (i := 157) rfl)) rfl
set_option maxRecDepth 100000 in
theorem kw_399 : (Jvm.Cond.instanceMethod ({ cls := "LackFerry$Tape", name := "skipBlanks", desc := "()V" } : Jvm.MethodName)) ∈ ab_G := ab_gm (tb_in2 (List.mem_of_getElem? (i := 159) rfl)) rfl
set_option maxRecDepth 100000 in
theorem kw_400 : (Jvm.Cond.code ({ cls := "LackFerry$Tape", name := "skipBlanks", desc := "()V" } : Jvm.MethodName) prog_10_method_5_code (1 : Nat) (Option.none : Option Jvm.ClassFile.FieldType)) ∈ ab_G := ab_gm (tb_in2 (List.mem_of_getElem? (i := 160) rfl)) rfl
set_option maxRecDepth 100000 in
theorem kw_401 : (Jvm.Cond.methodLink "LackFerry$Tape" (44 : Nat) ({ cls := "LackFerry$Tape", name := "valueAt", desc := "(I)I" } : Jvm.MethodName)) ∈ ab_G := ab_gm (tb_in2 (List.mem_of_getElem? (i := 161) rfl)) rfl
set_option maxRecDepth 100000 in
theorem kw_402 : (Jvm.Cond.instanceMethod ({ cls := "LackFerry$Tape", name := "valueAt", desc := "(I)I" } : Jvm.MethodName)) ∈ ab_G := ab_gm (tb_in2 (List.mem_of_getElem? (i := 162) rfl)) rfl
set_option maxRecDepth 100000 in
theorem kw_403 : (Jvm.Cond.selects "LackFerry$Tape" ({ cls := "LackFerry$Tape", name := "valueAt", desc := "(I)I" } : Jvm.MethodName) ({ cls := "LackFerry$Tape", name := "valueAt", desc := "(I)I" } : Jvm.MethodName)) ∈ ab_G := ab_gm (tb_in2 (List.mem_of_getElem? (i := 163) rfl)) rfl
set_option maxRecDepth 100000 in
theorem kw_404 : (Jvm.Cond.code ({ cls := "LackFerry$Tape", name := "valueAt", desc := "(I)I" } : Jvm.MethodName) prog_10_method_3_code (2 : Nat) (Option.some Jvm.ClassFile.FieldType.int)) ∈ ab_G := ab_gm (tb_in2 (List.mem_of_getElem? (i := 164) rfl)) rfl
set_option maxRecDepth 100000 in
theorem kw_405 : (Jvm.Cond.methodLink "LackFerry$Tape" (30 : Nat) ({ cls := "LackFerry$Tape", name := "cutToken", desc := "(LLackFerry$Tokens;)I" } : Jvm.MethodName)) ∈ ab_G := ab_gm (tb_in2 (List.mem_of_getElem? (i := 165) rfl)) rfl
set_option maxRecDepth 100000 in
theorem kw_407 : (Jvm.Cond.instanceMethod ({ cls := "LackFerry$Tape", name := "cutToken", desc := "(LLackFerry$Tokens;)I" } : Jvm.MethodName)) ∈ ab_G := ab_gm (tb_in2 (List.mem_of_getElem? (i := 167) rfl)) rfl
set_option maxRecDepth 100000 in
theorem kw_408 : (Jvm.Cond.code ({ cls := "LackFerry$Tape", name := "cutToken", desc := "(LLackFerry$Tokens;)I" } : Jvm.MethodName) prog_10_method_6_code (4 : Nat) (Option.some Jvm.ClassFile.FieldType.int)) ∈ ab_G := ab_gm (tb_in2 (List.mem_of_getElem? (i := 168) rfl)) rfl
set_option maxRecDepth 100000 in
theorem kw_409 : (Jvm.Cond.methodLink "LackFerry$Tape" (48 : Nat) ({ cls := "LackFerry$Tape", name := "isLetter", desc := "(I)Z" } : Jvm.MethodName)) ∈ ab_G := ab_gm (tb_in2 (List.mem_of_getElem? (i := 169) rfl)) rfl
set_option maxRecDepth 100000 in
theorem kw_410 : (Jvm.Cond.static ({ cls := "LackFerry$Tape", name := "isLetter", desc := "(I)Z" } : Jvm.MethodName)) ∈ ab_G := ab_gm (tb_in2 (List.mem_of_getElem? (i := 170) rfl)) rfl
set_option maxRecDepth 100000 in
theorem kw_411 : (Jvm.Cond.code ({ cls := "LackFerry$Tape", name := "isLetter", desc := "(I)Z" } : Jvm.MethodName) prog_10_method_10_code (1 : Nat) (Option.some Jvm.ClassFile.FieldType.boolean)) ∈ ab_G := ab_gm (tb_in2 (List.mem_of_getElem? (i := 171) rfl)) rfl
set_option maxRecDepth 100000 in
theorem kw_412 : (Jvm.Cond.methodLink "LackFerry$Tape" (52 : Nat) ({ cls := "LackFerry$Tape", name := "isDigit", desc := "(I)Z" } : Jvm.MethodName)) ∈ ab_G := ab_gm (tb_in2 (List.mem_of_getElem? (i := 172) rfl)) rfl
set_option maxRecDepth 100000 in
theorem kw_413 : (Jvm.Cond.static ({ cls := "LackFerry$Tape", name := "isDigit", desc := "(I)Z" } : Jvm.MethodName)) ∈ ab_G := ab_gm (tb_in2 (List.mem_of_getElem? (i := 173) rfl)) rfl
set_option maxRecDepth 100000 in
theorem kw_414 : (Jvm.Cond.code ({ cls := "LackFerry$Tape", name := "isDigit", desc := "(I)Z" } : Jvm.MethodName) prog_10_method_11_code (1 : Nat) (Option.some Jvm.ClassFile.FieldType.boolean)) ∈ ab_G := ab_gm (tb_in2 (List.mem_of_getElem? (i := 174) rfl)) rfl
set_option maxRecDepth 100000 in
theorem kw_415 : (Jvm.Cond.methodLink "LackFerry$Tape" (55 : Nat) ({ cls := "LackFerry$Tape", name := "cutRun", desc := "(LLackFerry$Tokens;)I" } : Jvm.MethodName)) ∈ ab_G := ab_gm (tb_in2 (List.mem_of_getElem? (i := 175) rfl)) rfl
set_option maxRecDepth 100000 in
theorem kw_417 : (Jvm.Cond.instanceMethod ({ cls := "LackFerry$Tape", name := "cutRun", desc := "(LLackFerry$Tokens;)I" } : Jvm.MethodName)) ∈ ab_G := ab_gm (tb_in2 (List.mem_of_getElem? (i := 177) rfl)) rfl
set_option maxRecDepth 100000 in
theorem kw_418 : (Jvm.Cond.code ({ cls := "LackFerry$Tape", name := "cutRun", desc := "(LLackFerry$Tokens;)I" } : Jvm.MethodName) prog_10_method_7_code (9 : Nat) (Option.some Jvm.ClassFile.FieldType.int)) ∈ ab_G := ab_gm (tb_in2 (List.mem_of_getElem? (i := 178) rfl)) rfl
set_option maxRecDepth 100000 in
theorem kw_419 : (Jvm.Cond.constantLong "LackFerry$Tape" (61 : Nat) (32 : Int64)) ∈ ab_G := ab_gm (tb_in2 (List.mem_of_getElem? (i := 179) rfl)) rfl
set_option maxRecDepth 100000 in
theorem kw_420 : (Jvm.Cond.constantLong "LackFerry$Tape" (63 : Nat) (97 : Int64)) ∈ ab_G := ab_gm (tb_in2 (List.mem_of_getElem? (i := 180) rfl)) rfl
set_option maxRecDepth 100000 in
theorem kw_421 : (Jvm.Cond.methodLink "LackFerry$Tape" (65 : Nat) ({ cls := "LackFerry$Tape", name := "kindOfWord", desc := "(II)I" } : Jvm.MethodName)) ∈ ab_G := ab_gm (tb_in2 (List.mem_of_getElem? (i := 181) rfl)) rfl
set_option maxRecDepth 100000 in
theorem kw_423 : (Jvm.Cond.instanceMethod ({ cls := "LackFerry$Tape", name := "kindOfWord", desc := "(II)I" } : Jvm.MethodName)) ∈ ab_G := ab_gm (tb_in2 (List.mem_of_getElem? (i := 183) rfl)) rfl
set_option maxRecDepth 100000 in
theorem kw_424 : (Jvm.Cond.code ({ cls := "LackFerry$Tape", name := "kindOfWord", desc := "(II)I" } : Jvm.MethodName) prog_10_method_8_code (4 : Nat) (Option.some Jvm.ClassFile.FieldType.int)) ∈ ab_G := ab_gm (tb_in2 (List.mem_of_getElem? (i := 184) rfl)) rfl
set_option maxRecDepth 100000 in
theorem kw_425 : (Jvm.Cond.methodLink "LackFerry$Tape" (68 : Nat) ({ cls := "LackFerry$Tape", name := "isToldWord", desc := "(III)Z" } : Jvm.MethodName)) ∈ ab_G := ab_gm (tb_in2 (List.mem_of_getElem? (i := 185) rfl)) rfl
set_option maxRecDepth 100000 in
theorem kw_427 : (Jvm.Cond.instanceMethod ({ cls := "LackFerry$Tape", name := "isToldWord", desc := "(III)Z" } : Jvm.MethodName)) ∈ ab_G := ab_gm (tb_in2 (List.mem_of_getElem? (i := 187) rfl)) rfl
set_option maxRecDepth 100000 in
theorem kw_428 : (Jvm.Cond.code ({ cls := "LackFerry$Tape", name := "isToldWord", desc := "(III)Z" } : Jvm.MethodName) prog_10_method_9_code (7 : Nat) (Option.some Jvm.ClassFile.FieldType.boolean)) ∈ ab_G := ab_gm (tb_in2 (List.mem_of_getElem? (i := 188) rfl)) rfl
set_option maxRecDepth 100000 in
theorem kw_430 : (Jvm.Cond.methodLink "LackFerry$Tape" (74 : Nat) ({ cls := "java/lang/String", name := "length", desc := "()I" } : Jvm.MethodName)) ∈ ab_G := ab_gm (tb_in2 (List.mem_of_getElem? (i := 190) rfl)) rfl
set_option maxRecDepth 100000 in
theorem kw_431 : (Jvm.Cond.instanceMethod ({ cls := "java/lang/String", name := "length", desc := "()I" } : Jvm.MethodName)) ∈ ab_G := ab_gm (tb_in2 (List.mem_of_getElem? (i := 191) rfl)) rfl
set_option maxRecDepth 100000 in
theorem kw_432 : (Jvm.Cond.selects "java/lang/String" ({ cls := "java/lang/String", name := "length", desc := "()I" } : Jvm.MethodName) ({ cls := "java/lang/String", name := "length", desc := "()I" } : Jvm.MethodName)) ∈ ab_G := ab_gm (tb_in2 (List.mem_of_getElem? (i := 192) rfl)) rfl
set_option maxRecDepth 100000 in
theorem kw_433 : (Jvm.Cond.code ({ cls := "java/lang/String", name := "length", desc := "()I" } : Jvm.MethodName) prog_21_method_54_code (1 : Nat) (Option.some Jvm.ClassFile.FieldType.int)) ∈ ab_G := ab_gm (tb_in2 (List.mem_of_getElem? (i := 193) rfl)) rfl
set_option maxRecDepth 100000 in
theorem kw_434 : (Jvm.Cond.methodLink "java/lang/String" (335 : Nat) ({ cls := "java/lang/String", name := "coder", desc := "()B" } : Jvm.MethodName)) ∈ ab_G := ab_gm (tb_in2 (List.mem_of_getElem? (i := 194) rfl)) rfl
set_option maxRecDepth 100000 in
theorem kw_435 : (Jvm.Cond.instanceMethod ({ cls := "java/lang/String", name := "coder", desc := "()B" } : Jvm.MethodName)) ∈ ab_G := ab_gm (tb_in2 (List.mem_of_getElem? (i := 195) rfl)) rfl
set_option maxRecDepth 100000 in
theorem kw_436 : (Jvm.Cond.selects "java/lang/String" ({ cls := "java/lang/String", name := "coder", desc := "()B" } : Jvm.MethodName) ({ cls := "java/lang/String", name := "coder", desc := "()B" } : Jvm.MethodName)) ∈ ab_G := ab_gm (tb_in2 (List.mem_of_getElem? (i := 196) rfl)) rfl
set_option maxRecDepth 100000 in
theorem kw_437 : (Jvm.Cond.code ({ cls := "java/lang/String", name := "coder", desc := "()B" } : Jvm.MethodName) prog_21_method_152_code (1 : Nat) (Option.some Jvm.ClassFile.FieldType.byte)) ∈ ab_G := ab_gm (tb_in2 (List.mem_of_getElem? (i := 197) rfl)) rfl
set_option maxRecDepth 100000 in
theorem kw_438 : (Jvm.Cond.fieldLink "java/lang/String" (38 : Nat) "java/lang/String" "COMPACT_STRINGS" "Z") ∈ ab_G := ab_gm (tb_in2 (List.mem_of_getElem? (i := 198) rfl)) rfl
set_option maxRecDepth 100000 in
theorem kw_440 : (Jvm.Cond.methodLink "LackFerry$Tape" (80 : Nat) ({ cls := "java/lang/String", name := "charAt", desc := "(I)C" } : Jvm.MethodName)) ∈ ab_G := ab_gm (tb_in2 (List.mem_of_getElem? (i := 200) rfl)) rfl
set_option maxRecDepth 100000 in
theorem kw_441 : (Jvm.Cond.instanceMethod ({ cls := "java/lang/String", name := "charAt", desc := "(I)C" } : Jvm.MethodName)) ∈ ab_G := ab_gm (tb_in2 (List.mem_of_getElem? (i := 201) rfl)) rfl
set_option maxRecDepth 100000 in
theorem kw_442 : (Jvm.Cond.selects "java/lang/String" ({ cls := "java/lang/String", name := "charAt", desc := "(I)C" } : Jvm.MethodName) ({ cls := "java/lang/String", name := "charAt", desc := "(I)C" } : Jvm.MethodName)) ∈ ab_G := ab_gm (tb_in2 (List.mem_of_getElem? (i := 202) rfl)) rfl
set_option maxRecDepth 100000 in
theorem kw_443 : (Jvm.Cond.code ({ cls := "java/lang/String", name := "charAt", desc := "(I)C" } : Jvm.MethodName) prog_21_method_56_code (2 : Nat) (Option.some Jvm.ClassFile.FieldType.char)) ∈ ab_G := ab_gm (tb_in2 (List.mem_of_getElem? (i := 203) rfl)) rfl
set_option maxRecDepth 100000 in
theorem kw_444 : (Jvm.Cond.methodLink "java/lang/String" (492 : Nat) ({ cls := "java/lang/String", name := "isLatin1", desc := "()Z" } : Jvm.MethodName)) ∈ ab_G := ab_gm (tb_in2 (List.mem_of_getElem? (i := 204) rfl)) rfl
set_option maxRecDepth 100000 in
theorem kw_445 : (Jvm.Cond.instanceMethod ({ cls := "java/lang/String", name := "isLatin1", desc := "()Z" } : Jvm.MethodName)) ∈ ab_G := ab_gm (tb_in2 (List.mem_of_getElem? (i := 205) rfl)) rfl
set_option maxRecDepth 100000 in
theorem kw_446 : (Jvm.Cond.selects "java/lang/String" ({ cls := "java/lang/String", name := "isLatin1", desc := "()Z" } : Jvm.MethodName) ({ cls := "java/lang/String", name := "isLatin1", desc := "()Z" } : Jvm.MethodName)) ∈ ab_G := ab_gm (tb_in2 (List.mem_of_getElem? (i := 206) rfl)) rfl
set_option maxRecDepth 100000 in
theorem kw_447 : (Jvm.Cond.code ({ cls := "java/lang/String", name := "isLatin1", desc := "()Z" } : Jvm.MethodName) prog_21_method_154_code (1 : Nat) (Option.some Jvm.ClassFile.FieldType.boolean)) ∈ ab_G := ab_gm (tb_in2 (List.mem_of_getElem? (i := 207) rfl)) rfl
set_option maxRecDepth 100000 in
theorem kw_448 : (Jvm.Cond.methodLink "java/lang/String" (495 : Nat) ({ cls := "java/lang/StringLatin1", name := "charAt", desc := "([BI)C" } : Jvm.MethodName)) ∈ ab_G := ab_gm (tb_in2 (List.mem_of_getElem? (i := 208) rfl)) rfl
set_option maxRecDepth 100000 in
theorem kw_449 : (Jvm.Cond.static ({ cls := "java/lang/StringLatin1", name := "charAt", desc := "([BI)C" } : Jvm.MethodName)) ∈ ab_G := ab_gm (tb_in2 (List.mem_of_getElem? (i := 209) rfl)) rfl
set_option maxRecDepth 100000 in
theorem kw_450 : (Jvm.Cond.code ({ cls := "java/lang/StringLatin1", name := "charAt", desc := "([BI)C" } : Jvm.MethodName) prog_22_method_2_code (2 : Nat) (Option.some Jvm.ClassFile.FieldType.char)) ∈ ab_G := ab_gm (tb_in2 (List.mem_of_getElem? (i := 210) rfl)) rfl
set_option maxRecDepth 100000 in
theorem kw_451 : (Jvm.Cond.methodLink "java/lang/StringLatin1" (9 : Nat) ({ cls := "java/lang/String", name := "checkIndex", desc := "(II)V" } : Jvm.MethodName)) ∈ ab_G := ab_gm (tb_in2 (List.mem_of_getElem? (i := 211) rfl)) rfl
set_option maxRecDepth 100000 in
theorem kw_452 : (Jvm.Cond.static ({ cls := "java/lang/String", name := "checkIndex", desc := "(II)V" } : Jvm.MethodName)) ∈ ab_G := ab_gm (tb_in2 (List.mem_of_getElem? (i := 212) rfl)) rfl
set_option maxRecDepth 100000 in
theorem kw_453 : (Jvm.Cond.code ({ cls := "java/lang/String", name := "checkIndex", desc := "(II)V" } : Jvm.MethodName) prog_21_method_155_code (2 : Nat) (Option.none : Option Jvm.ClassFile.FieldType)) ∈ ab_G := ab_gm (tb_in2 (List.mem_of_getElem? (i := 213) rfl)) rfl
set_option maxRecDepth 100000 in
theorem kw_454 : (Jvm.Cond.fieldLink "java/lang/String" (1053 : Nat) "jdk/internal/util/Preconditions" "SIOOBE_FORMATTER" "Ljava/util/function/BiFunction;") ∈ ab_G := ab_gm (tb_in2 (List.mem_of_getElem? (i := 214) rfl)) rfl
set_option maxRecDepth 100000 in
theorem kw_456 : (Jvm.Cond.methodLink "java/lang/String" (1059 : Nat) ({ cls := "jdk/internal/util/Preconditions", name := "checkIndex", desc := "(IILjava/util/function/BiFunction;)I" } : Jvm.MethodName)) ∈ ab_G := ab_gm (tb_in2 (List.mem_of_getElem? (i := 216) rfl)) rfl
set_option maxRecDepth 100000 in
theorem kw_457 : (Jvm.Cond.static ({ cls := "jdk/internal/util/Preconditions", name := "checkIndex", desc := "(IILjava/util/function/BiFunction;)I" } : Jvm.MethodName)) ∈ ab_G := ab_gm (tb_in2 (List.mem_of_getElem? (i := 217) rfl)) rfl
set_option maxRecDepth 100000 in
theorem kw_458 : (Jvm.Cond.code ({ cls := "jdk/internal/util/Preconditions", name := "checkIndex", desc := "(IILjava/util/function/BiFunction;)I" } : Jvm.MethodName) prog_29_method_11_code (3 : Nat) (Option.some Jvm.ClassFile.FieldType.int)) ∈ ab_G := ab_gm (tb_in2 (List.mem_of_getElem? (i := 218) rfl)) rfl
set_option maxRecDepth 100000 in
theorem kw_478 : (Jvm.Cond.methodLink "LackFerry$Tape" (40 : Nat) ({ cls := "LackFerry$Tokens", name := "add", desc := "(IIJ)V" } : Jvm.MethodName)) ∈ ab_G := ab_gm (tb_in2 (List.mem_of_getElem? (i := 238) rfl)) rfl
set_option maxRecDepth 100000 in
theorem kw_479 : (Jvm.Cond.instanceMethod ({ cls := "LackFerry$Tokens", name := "add", desc := "(IIJ)V" } : Jvm.MethodName)) ∈ ab_G := ab_gm (tb_in2 (List.mem_of_getElem? (i := 239) rfl)) rfl
set_option maxRecDepth 100000 in
theorem kw_480 : (Jvm.Cond.selects "LackFerry$Tokens" ({ cls := "LackFerry$Tokens", name := "add", desc := "(IIJ)V" } : Jvm.MethodName) ({ cls := "LackFerry$Tokens", name := "add", desc := "(IIJ)V" } : Jvm.MethodName)) ∈ ab_G := ab_gm (tb_in3 (List.mem_of_getElem? (i := 0) rfl)) rfl
set_option maxRecDepth 100000 in
theorem kw_481 : (Jvm.Cond.code ({ cls := "LackFerry$Tokens", name := "add", desc := "(IIJ)V" } : Jvm.MethodName) prog_11_method_3_code (5 : Nat) (Option.none : Option Jvm.ClassFile.FieldType)) ∈ ab_G := ab_gm (tb_in3 (List.mem_of_getElem? (i := 1) rfl)) rfl
set_option maxRecDepth 100000 in
theorem kw_482 : (Jvm.Cond.methodLink "LackFerry$Tape" (58 : Nat) ({ cls := "LackFerry$Tape", name := "isSign", desc := "(I)Z" } : Jvm.MethodName)) ∈ ab_G := ab_gm (tb_in3 (List.mem_of_getElem? (i := 2) rfl)) rfl
set_option maxRecDepth 100000 in
theorem kw_483 : (Jvm.Cond.static ({ cls := "LackFerry$Tape", name := "isSign", desc := "(I)Z" } : Jvm.MethodName)) ∈ ab_G := ab_gm (tb_in3 (List.mem_of_getElem? (i := 3) rfl)) rfl
set_option maxRecDepth 100000 in
theorem kw_484 : (Jvm.Cond.code ({ cls := "LackFerry$Tape", name := "isSign", desc := "(I)Z" } : Jvm.MethodName) prog_10_method_12_code (1 : Nat) (Option.some Jvm.ClassFile.FieldType.boolean)) ∈ ab_G := ab_gm (tb_in3 (List.mem_of_getElem? (i := 4) rfl)) rfl
set_option maxRecDepth 100000 in
theorem kw_485 : (Jvm.Cond.methodLink "LackFerry$Tape" (34 : Nat) ({ cls := "java/lang/Math", name := "min", desc := "(II)I" } : Jvm.MethodName)) ∈ ab_G := ab_gm (tb_in3 (List.mem_of_getElem? (i := 5) rfl)) rfl
set_option maxRecDepth 100000 in
theorem kw_486 : (Jvm.Cond.static ({ cls := "java/lang/Math", name := "min", desc := "(II)I" } : Jvm.MethodName)) ∈ ab_G := ab_gm (tb_in3 (List.mem_of_getElem? (i := 6) rfl)) rfl
set_option maxRecDepth 100000 in
theorem kw_487 : (Jvm.Cond.code ({ cls := "java/lang/Math", name := "min", desc := "(II)I" } : Jvm.MethodName) prog_19_method_69_code (2 : Nat) (Option.some Jvm.ClassFile.FieldType.int)) ∈ ab_G := ab_gm (tb_in3 (List.mem_of_getElem? (i := 7) rfl)) rfl
set_option maxRecDepth 100000 in
theorem kw_488 : (Jvm.Cond.methodLink "LackFerry" (112 : Nat) ({ cls := "LackFerry$Strait", name := "readText", desc := "(LLackFerry$Tokens;)I" } : Jvm.MethodName)) ∈ ab_G := ab_gm (tb_in3 (List.mem_of_getElem? (i := 8) rfl)) rfl
set_option maxRecDepth 100000 in
theorem kw_489 : (Jvm.Cond.instanceMethod ({ cls := "LackFerry$Strait", name := "readText", desc := "(LLackFerry$Tokens;)I" } : Jvm.MethodName)) ∈ ab_G := ab_gm (tb_in3 (List.mem_of_getElem? (i := 9) rfl)) rfl
set_option maxRecDepth 100000 in
theorem kw_490 : (Jvm.Cond.selects "LackFerry$Strait" ({ cls := "LackFerry$Strait", name := "readText", desc := "(LLackFerry$Tokens;)I" } : Jvm.MethodName) ({ cls := "LackFerry$Strait", name := "readText", desc := "(LLackFerry$Tokens;)I" } : Jvm.MethodName)) ∈ ab_G := ab_gm (tb_in3 (List.mem_of_getElem? (i := 10) rfl)) rfl
set_option maxRecDepth 100000 in
theorem kw_491 : (Jvm.Cond.code ({ cls := "LackFerry$Strait", name := "readText", desc := "(LLackFerry$Tokens;)I" } : Jvm.MethodName) prog_9_method_9_code (3 : Nat) (Option.some Jvm.ClassFile.FieldType.int)) ∈ ab_G := ab_gm (tb_in3 (List.mem_of_getElem? (i := 11) rfl)) rfl
set_option maxRecDepth 100000 in
theorem kw_492 : (Jvm.Cond.methodLink "LackFerry$Strait" (73 : Nat) ({ cls := "LackFerry$Strait", name := "clear", desc := "()V" } : Jvm.MethodName)) ∈ ab_G := ab_gm (tb_in3 (List.mem_of_getElem? (i := 12) rfl)) rfl
set_option maxRecDepth 100000 in
theorem kw_494 : (Jvm.Cond.instanceMethod ({ cls := "LackFerry$Strait", name := "clear", desc := "()V" } : Jvm.MethodName)) ∈ ab_G := ab_gm (tb_in3 (List.mem_of_getElem? (i := 14) rfl)) rfl
set_option maxRecDepth 100000 in
theorem kw_495 : (Jvm.Cond.code ({ cls := "LackFerry$Strait", name := "clear", desc := "()V" } : Jvm.MethodName) prog_9_method_6_code (2 : Nat) (Option.none : Option Jvm.ClassFile.FieldType)) ∈ ab_G := ab_gm (tb_in3 (List.mem_of_getElem? (i := 15) rfl)) rfl
set_option maxRecDepth 100000 in
theorem kw_496 : (Jvm.Cond.methodLink "LackFerry$Strait" (76 : Nat) ({ cls := "LackFerry$Tokens", name := "step", desc := "()V" } : Jvm.MethodName)) ∈ ab_G := ab_gm (tb_in3 (List.mem_of_getElem? (i := 16) rfl)) rfl
set_option maxRecDepth 100000 in
theorem kw_497 : (Jvm.Cond.instanceMethod ({ cls := "LackFerry$Tokens", name := "step", desc := "()V" } : Jvm.MethodName)) ∈ ab_G := ab_gm (tb_in3 (List.mem_of_getElem? (i := 17) rfl)) rfl
set_option maxRecDepth 100000 in
theorem kw_498 : (Jvm.Cond.selects "LackFerry$Tokens" ({ cls := "LackFerry$Tokens", name := "step", desc := "()V" } : Jvm.MethodName) ({ cls := "LackFerry$Tokens", name := "step", desc := "()V" } : Jvm.MethodName)) ∈ ab_G := ab_gm (tb_in3 (List.mem_of_getElem? (i := 18) rfl)) rfl
set_option maxRecDepth 100000 in
theorem kw_499 : (Jvm.Cond.code ({ cls := "LackFerry$Tokens", name := "step", desc := "()V" } : Jvm.MethodName) prog_11_method_5_code (1 : Nat) (Option.none : Option Jvm.ClassFile.FieldType)) ∈ ab_G := ab_gm (tb_in3 (List.mem_of_getElem? (i := 19) rfl)) rfl
set_option maxRecDepth 100000 in
theorem kw_500 : (Jvm.Cond.methodLink "LackFerry$Strait" (84 : Nat) ({ cls := "LackFerry$Strait", name := "readLine", desc := "(LLackFerry$Tokens;)Z" } : Jvm.MethodName)) ∈ ab_G := ab_gm (tb_in3 (List.mem_of_getElem? (i := 20) rfl)) rfl
set_option maxRecDepth 100000 in
theorem kw_502 : (Jvm.Cond.instanceMethod ({ cls := "LackFerry$Strait", name := "readLine", desc := "(LLackFerry$Tokens;)Z" } : Jvm.MethodName)) ∈ ab_G := ab_gm (tb_in3 (List.mem_of_getElem? (i := 22) rfl)) rfl
set_option maxRecDepth 100000 in
theorem kw_503 : (Jvm.Cond.code ({ cls := "LackFerry$Strait", name := "readLine", desc := "(LLackFerry$Tokens;)Z" } : Jvm.MethodName) prog_9_method_10_code (2 : Nat) (Option.some Jvm.ClassFile.FieldType.boolean)) ∈ ab_G := ab_gm (tb_in3 (List.mem_of_getElem? (i := 23) rfl)) rfl
set_option maxRecDepth 100000 in
theorem kw_504 : (Jvm.Cond.methodLink "LackFerry$Strait" (92 : Nat) ({ cls := "LackFerry$Strait", name := "readAmount", desc := "(LLackFerry$Tokens;I)Z" } : Jvm.MethodName)) ∈ ab_G := ab_gm (tb_in3 (List.mem_of_getElem? (i := 24) rfl)) rfl
set_option maxRecDepth 100000 in
theorem kw_506 : (Jvm.Cond.instanceMethod ({ cls := "LackFerry$Strait", name := "readAmount", desc := "(LLackFerry$Tokens;I)Z" } : Jvm.MethodName)) ∈ ab_G := ab_gm (tb_in3 (List.mem_of_getElem? (i := 26) rfl)) rfl
set_option maxRecDepth 100000 in
theorem kw_507 : (Jvm.Cond.code ({ cls := "LackFerry$Strait", name := "readAmount", desc := "(LLackFerry$Tokens;I)Z" } : Jvm.MethodName) prog_9_method_17_code (6 : Nat) (Option.some Jvm.ClassFile.FieldType.boolean)) ∈ ab_G := ab_gm (tb_in3 (List.mem_of_getElem? (i := 27) rfl)) rfl
set_option maxRecDepth 100000 in
theorem kw_508 : (Jvm.Cond.methodLink "LackFerry$Strait" (135 : Nat) ({ cls := "LackFerry$Strait", name := "takeGood", desc := "(LLackFerry$Tokens;)I" } : Jvm.MethodName)) ∈ ab_G := ab_gm (tb_in3 (List.mem_of_getElem? (i := 28) rfl)) rfl
set_option maxRecDepth 100000 in
theorem kw_509 : (Jvm.Cond.instanceMethod ({ cls := "LackFerry$Strait", name := "takeGood", desc := "(LLackFerry$Tokens;)I" } : Jvm.MethodName)) ∈ ab_G := ab_gm (tb_in3 (List.mem_of_getElem? (i := 29) rfl)) rfl
set_option maxRecDepth 100000 in
theorem kw_510 : (Jvm.Cond.selects "LackFerry$Strait" ({ cls := "LackFerry$Strait", name := "takeGood", desc := "(LLackFerry$Tokens;)I" } : Jvm.MethodName) ({ cls := "LackFerry$Strait", name := "takeGood", desc := "(LLackFerry$Tokens;)I" } : Jvm.MethodName)) ∈ ab_G := ab_gm (tb_in3 (List.mem_of_getElem? (i := 30) rfl)) rfl
set_option maxRecDepth 100000 in
theorem kw_511 : (Jvm.Cond.code ({ cls := "LackFerry$Strait", name := "takeGood", desc := "(LLackFerry$Tokens;)I" } : Jvm.MethodName) prog_9_method_15_code (3 : Nat) (Option.some Jvm.ClassFile.FieldType.int)) ∈ ab_G := ab_gm (tb_in3 (List.mem_of_getElem? (i := 31) rfl)) rfl
set_option maxRecDepth 100000 in
theorem kw_512 : (Jvm.Cond.methodLink "LackFerry$Strait" (118 : Nat) ({ cls := "LackFerry$Tokens", name := "takeName", desc := "()Z" } : Jvm.MethodName)) ∈ ab_G := ab_gm (tb_in3 (List.mem_of_getElem? (i := 32) rfl)) rfl
set_option maxRecDepth 100000 in
theorem kw_513 : (Jvm.Cond.instanceMethod ({ cls := "LackFerry$Tokens", name := "takeName", desc := "()Z" } : Jvm.MethodName)) ∈ ab_G := ab_gm (tb_in3 (List.mem_of_getElem? (i := 33) rfl)) rfl
set_option maxRecDepth 100000 in
theorem kw_514 : (Jvm.Cond.selects "LackFerry$Tokens" ({ cls := "LackFerry$Tokens", name := "takeName", desc := "()Z" } : Jvm.MethodName) ({ cls := "LackFerry$Tokens", name := "takeName", desc := "()Z" } : Jvm.MethodName)) ∈ ab_G := ab_gm (tb_in3 (List.mem_of_getElem? (i := 34) rfl)) rfl
set_option maxRecDepth 100000 in
theorem kw_515 : (Jvm.Cond.code ({ cls := "LackFerry$Tokens", name := "takeName", desc := "()Z" } : Jvm.MethodName) prog_11_method_8_code (1 : Nat) (Option.some Jvm.ClassFile.FieldType.boolean)) ∈ ab_G := ab_gm (tb_in3 (List.mem_of_getElem? (i := 35) rfl)) rfl
set_option maxRecDepth 100000 in
theorem kw_516 : (Jvm.Cond.methodLink "LackFerry$Tokens" (45 : Nat) ({ cls := "LackFerry$Tokens", name := "step", desc := "()V" } : Jvm.MethodName)) ∈ ab_G := ab_gm (tb_in3 (List.mem_of_getElem? (i := 36) rfl)) rfl
set_option maxRecDepth 100000 in
theorem kw_517 : (Jvm.Cond.methodLink "LackFerry$Tokens" (48 : Nat) ({ cls := "LackFerry$Tokens", name := "fail", desc := "(I)Z" } : Jvm.MethodName)) ∈ ab_G := ab_gm (tb_in3 (List.mem_of_getElem? (i := 37) rfl)) rfl
set_option maxRecDepth 100000 in
theorem kw_518 : (Jvm.Cond.instanceMethod ({ cls := "LackFerry$Tokens", name := "fail", desc := "(I)Z" } : Jvm.MethodName)) ∈ ab_G := ab_gm (tb_in3 (List.mem_of_getElem? (i := 38) rfl)) rfl
set_option maxRecDepth 100000 in
theorem kw_519 : (Jvm.Cond.selects "LackFerry$Tokens" ({ cls := "LackFerry$Tokens", name := "fail", desc := "(I)Z" } : Jvm.MethodName) ({ cls := "LackFerry$Tokens", name := "fail", desc := "(I)Z" } : Jvm.MethodName)) ∈ ab_G := ab_gm (tb_in3 (List.mem_of_getElem? (i := 39) rfl)) rfl
set_option maxRecDepth 100000 in
theorem kw_520 : (Jvm.Cond.code ({ cls := "LackFerry$Tokens", name := "fail", desc := "(I)Z" } : Jvm.MethodName) prog_11_method_4_code (2 : Nat) (Option.some Jvm.ClassFile.FieldType.boolean)) ∈ ab_G := ab_gm (tb_in3 (List.mem_of_getElem? (i := 40) rfl)) rfl
set_option maxRecDepth 100000 in
theorem kw_521 : (Jvm.Cond.methodLink "LackFerry$Strait" (125 : Nat) ({ cls := "LackFerry$Strait", name := "goodNamed", desc := "(J)I" } : Jvm.MethodName)) ∈ ab_G := ab_gm (tb_in3 (List.mem_of_getElem? (i := 41) rfl)) rfl
set_option maxRecDepth 100000 in
theorem kw_522 : (Jvm.Cond.instanceMethod ({ cls := "LackFerry$Strait", name := "goodNamed", desc := "(J)I" } : Jvm.MethodName)) ∈ ab_G := ab_gm (tb_in3 (List.mem_of_getElem? (i := 42) rfl)) rfl
set_option maxRecDepth 100000 in
theorem kw_523 : (Jvm.Cond.selects "LackFerry$Strait" ({ cls := "LackFerry$Strait", name := "goodNamed", desc := "(J)I" } : Jvm.MethodName) ({ cls := "LackFerry$Strait", name := "goodNamed", desc := "(J)I" } : Jvm.MethodName)) ∈ ab_G := ab_gm (tb_in3 (List.mem_of_getElem? (i := 43) rfl)) rfl
set_option maxRecDepth 100000 in
theorem kw_524 : (Jvm.Cond.code ({ cls := "LackFerry$Strait", name := "goodNamed", desc := "(J)I" } : Jvm.MethodName) prog_9_method_7_code (4 : Nat) (Option.some Jvm.ClassFile.FieldType.int)) ∈ ab_G := ab_gm (tb_in3 (List.mem_of_getElem? (i := 44) rfl)) rfl
set_option maxRecDepth 100000 in
theorem kw_525 : (Jvm.Cond.methodLink "LackFerry$Strait" (108 : Nat) ({ cls := "LackFerry$Tokens", name := "fail", desc := "(I)Z" } : Jvm.MethodName)) ∈ ab_G := ab_gm (tb_in3 (List.mem_of_getElem? (i := 45) rfl)) rfl
set_option maxRecDepth 100000 in
theorem kw_526 : (Jvm.Cond.methodLink "LackFerry$Strait" (111 : Nat) ({ cls := "LackFerry$Tokens", name := "takeNumber", desc := "(II)Z" } : Jvm.MethodName)) ∈ ab_G := ab_gm (tb_in3 (List.mem_of_getElem? (i := 46) rfl)) rfl
set_option maxRecDepth 100000 in
theorem kw_527 : (Jvm.Cond.instanceMethod ({ cls := "LackFerry$Tokens", name := "takeNumber", desc := "(II)Z" } : Jvm.MethodName)) ∈ ab_G := ab_gm (tb_in3 (List.mem_of_getElem? (i := 47) rfl)) rfl
set_option maxRecDepth 100000 in
theorem kw_528 : (Jvm.Cond.selects "LackFerry$Tokens" ({ cls := "LackFerry$Tokens", name := "takeNumber", desc := "(II)Z" } : Jvm.MethodName) ({ cls := "LackFerry$Tokens", name := "takeNumber", desc := "(II)Z" } : Jvm.MethodName)) ∈ ab_G := ab_gm (tb_in3 (List.mem_of_getElem? (i := 48) rfl)) rfl
set_option maxRecDepth 100000 in
theorem kw_529 : (Jvm.Cond.code ({ cls := "LackFerry$Tokens", name := "takeNumber", desc := "(II)Z" } : Jvm.MethodName) prog_11_method_7_code (3 : Nat) (Option.some Jvm.ClassFile.FieldType.boolean)) ∈ ab_G := ab_gm (tb_in3 (List.mem_of_getElem? (i := 49) rfl)) rfl
set_option maxRecDepth 100000 in
theorem kw_531 : (Jvm.Cond.static ({ cls := "LackFerry", name := "slotOf", desc := "(II)I" } : Jvm.MethodName)) ∈ ab_G := ab_gm (tb_in3 (List.mem_of_getElem? (i := 51) rfl)) rfl
set_option maxRecDepth 100000 in
theorem kw_532 : (Jvm.Cond.code ({ cls := "LackFerry", name := "slotOf", desc := "(II)I" } : Jvm.MethodName) prog_1_method_12_code (2 : Nat) (Option.some Jvm.ClassFile.FieldType.int)) ∈ ab_G := ab_gm (tb_in3 (List.mem_of_getElem? (i := 52) rfl)) rfl
set_option maxRecDepth 100000 in
theorem kw_533 : (Jvm.Cond.methodLink "LackFerry$Strait" (96 : Nat) ({ cls := "LackFerry$Strait", name := "readLoad", desc := "(LLackFerry$Tokens;)Z" } : Jvm.MethodName)) ∈ ab_G := ab_gm (tb_in3 (List.mem_of_getElem? (i := 53) rfl)) rfl
set_option maxRecDepth 100000 in
theorem kw_535 : (Jvm.Cond.instanceMethod ({ cls := "LackFerry$Strait", name := "readLoad", desc := "(LLackFerry$Tokens;)Z" } : Jvm.MethodName)) ∈ ab_G := ab_gm (tb_in3 (List.mem_of_getElem? (i := 55) rfl)) rfl
set_option maxRecDepth 100000 in
theorem kw_536 : (Jvm.Cond.code ({ cls := "LackFerry$Strait", name := "readLoad", desc := "(LLackFerry$Tokens;)Z" } : Jvm.MethodName) prog_9_method_11_code (2 : Nat) (Option.some Jvm.ClassFile.FieldType.boolean)) ∈ ab_G := ab_gm (tb_in3 (List.mem_of_getElem? (i := 56) rfl)) rfl
set_option maxRecDepth 100000 in
theorem kw_537 : (Jvm.Cond.methodLink "LackFerry$Strait" (99 : Nat) ({ cls := "LackFerry$Strait", name := "readGood", desc := "(LLackFerry$Tokens;)Z" } : Jvm.MethodName)) ∈ ab_G := ab_gm (tb_in3 (List.mem_of_getElem? (i := 57) rfl)) rfl
set_option maxRecDepth 100000 in
theorem kw_539 : (Jvm.Cond.instanceMethod ({ cls := "LackFerry$Strait", name := "readGood", desc := "(LLackFerry$Tokens;)Z" } : Jvm.MethodName)) ∈ ab_G := ab_gm (tb_in3 (List.mem_of_getElem? (i := 59) rfl)) rfl
set_option maxRecDepth 100000 in
theorem kw_540 : (Jvm.Cond.code ({ cls := "LackFerry$Strait", name := "readGood", desc := "(LLackFerry$Tokens;)Z" } : Jvm.MethodName) prog_9_method_13_code (2 : Nat) (Option.some Jvm.ClassFile.FieldType.boolean)) ∈ ab_G := ab_gm (tb_in3 (List.mem_of_getElem? (i := 60) rfl)) rfl
set_option maxRecDepth 100000 in
theorem kw_541 : (Jvm.Cond.methodLink "LackFerry$Strait" (132 : Nat) ({ cls := "LackFerry$Strait", name := "takeNewName", desc := "(LLackFerry$Tokens;)Z" } : Jvm.MethodName)) ∈ ab_G := ab_gm (tb_in3 (List.mem_of_getElem? (i := 61) rfl)) rfl
set_option maxRecDepth 100000 in
theorem kw_543 : (Jvm.Cond.instanceMethod ({ cls := "LackFerry$Strait", name := "takeNewName", desc := "(LLackFerry$Tokens;)Z" } : Jvm.MethodName)) ∈ ab_G := ab_gm (tb_in3 (List.mem_of_getElem? (i := 63) rfl)) rfl
set_option maxRecDepth 100000 in
theorem kw_544 : (Jvm.Cond.code ({ cls := "LackFerry$Strait", name := "takeNewName", desc := "(LLackFerry$Tokens;)Z" } : Jvm.MethodName) prog_9_method_12_code (3 : Nat) (Option.some Jvm.ClassFile.FieldType.boolean)) ∈ ab_G := ab_gm (tb_in3 (List.mem_of_getElem? (i := 64) rfl)) rfl
set_option maxRecDepth 100000 in
theorem kw_545 : (Jvm.Cond.methodLink "LackFerry$Strait" (129 : Nat) ({ cls := "LackFerry$Strait", name := "manNamed", desc := "(J)I" } : Jvm.MethodName)) ∈ ab_G := ab_gm (tb_in3 (List.mem_of_getElem? (i := 65) rfl)) rfl
set_option maxRecDepth 100000 in
theorem kw_546 : (Jvm.Cond.instanceMethod ({ cls := "LackFerry$Strait", name := "manNamed", desc := "(J)I" } : Jvm.MethodName)) ∈ ab_G := ab_gm (tb_in3 (List.mem_of_getElem? (i := 66) rfl)) rfl
set_option maxRecDepth 100000 in
theorem kw_547 : (Jvm.Cond.selects "LackFerry$Strait" ({ cls := "LackFerry$Strait", name := "manNamed", desc := "(J)I" } : Jvm.MethodName) ({ cls := "LackFerry$Strait", name := "manNamed", desc := "(J)I" } : Jvm.MethodName)) ∈ ab_G := ab_gm (tb_in3 (List.mem_of_getElem? (i := 67) rfl)) rfl
set_option maxRecDepth 100000 in
theorem kw_548 : (Jvm.Cond.code ({ cls := "LackFerry$Strait", name := "manNamed", desc := "(J)I" } : Jvm.MethodName) prog_9_method_8_code (4 : Nat) (Option.some Jvm.ClassFile.FieldType.int)) ∈ ab_G := ab_gm (tb_in3 (List.mem_of_getElem? (i := 68) rfl)) rfl
set_option maxRecDepth 100000 in
theorem kw_549 : (Jvm.Cond.methodLink "LackFerry$Strait" (102 : Nat) ({ cls := "LackFerry$Strait", name := "readMan", desc := "(LLackFerry$Tokens;)Z" } : Jvm.MethodName)) ∈ ab_G := ab_gm (tb_in3 (List.mem_of_getElem? (i := 69) rfl)) rfl
set_option maxRecDepth 100000 in
theorem kw_551 : (Jvm.Cond.instanceMethod ({ cls := "LackFerry$Strait", name := "readMan", desc := "(LLackFerry$Tokens;)Z" } : Jvm.MethodName)) ∈ ab_G := ab_gm (tb_in3 (List.mem_of_getElem? (i := 71) rfl)) rfl
set_option maxRecDepth 100000 in
theorem kw_552 : (Jvm.Cond.code ({ cls := "LackFerry$Strait", name := "readMan", desc := "(LLackFerry$Tokens;)Z" } : Jvm.MethodName) prog_9_method_14_code (4 : Nat) (Option.some Jvm.ClassFile.FieldType.boolean)) ∈ ab_G := ab_gm (tb_in3 (List.mem_of_getElem? (i := 72) rfl)) rfl
set_option maxRecDepth 100000 in
theorem kw_553 : (Jvm.Cond.methodLink "LackFerry$Strait" (105 : Nat) ({ cls := "LackFerry$Strait", name := "readMisses", desc := "(LLackFerry$Tokens;)Z" } : Jvm.MethodName)) ∈ ab_G := ab_gm (tb_in3 (List.mem_of_getElem? (i := 73) rfl)) rfl
set_option maxRecDepth 100000 in
theorem kw_555 : (Jvm.Cond.instanceMethod ({ cls := "LackFerry$Strait", name := "readMisses", desc := "(LLackFerry$Tokens;)Z" } : Jvm.MethodName)) ∈ ab_G := ab_gm (tb_in3 (List.mem_of_getElem? (i := 75) rfl)) rfl
set_option maxRecDepth 100000 in
theorem kw_556 : (Jvm.Cond.code ({ cls := "LackFerry$Strait", name := "readMisses", desc := "(LLackFerry$Tokens;)Z" } : Jvm.MethodName) prog_9_method_18_code (4 : Nat) (Option.some Jvm.ClassFile.FieldType.boolean)) ∈ ab_G := ab_gm (tb_in3 (List.mem_of_getElem? (i := 76) rfl)) rfl
set_option maxRecDepth 100000 in
theorem kw_557 : (Jvm.Cond.methodLink "LackFerry$Strait" (142 : Nat) ({ cls := "LackFerry$Strait", name := "takeMan", desc := "(LLackFerry$Tokens;)I" } : Jvm.MethodName)) ∈ ab_G := ab_gm (tb_in3 (List.mem_of_getElem? (i := 77) rfl)) rfl
set_option maxRecDepth 100000 in
theorem kw_559 : (Jvm.Cond.instanceMethod ({ cls := "LackFerry$Strait", name := "takeMan", desc := "(LLackFerry$Tokens;)I" } : Jvm.MethodName)) ∈ ab_G := ab_gm (tb_in3 (List.mem_of_getElem? (i := 79) rfl)) rfl
set_option maxRecDepth 100000 in
theorem kw_560 : (Jvm.Cond.code ({ cls := "LackFerry$Strait", name := "takeMan", desc := "(LLackFerry$Tokens;)I" } : Jvm.MethodName) prog_9_method_16_code (3 : Nat) (Option.some Jvm.ClassFile.FieldType.int)) ∈ ab_G := ab_gm (tb_in3 (List.mem_of_getElem? (i := 80) rfl)) rfl
set_option maxRecDepth 100000 in
theorem kw_561 : (Jvm.Cond.methodLink "LackFerry$Strait" (145 : Nat) ({ cls := "LackFerry$Strait", name := "isMissTold", desc := "(II)Z" } : Jvm.MethodName)) ∈ ab_G := ab_gm (tb_in3 (List.mem_of_getElem? (i := 81) rfl)) rfl
set_option maxRecDepth 100000 in
theorem kw_563 : (Jvm.Cond.instanceMethod ({ cls := "LackFerry$Strait", name := "isMissTold", desc := "(II)Z" } : Jvm.MethodName)) ∈ ab_G := ab_gm (tb_in3 (List.mem_of_getElem? (i := 83) rfl)) rfl
set_option maxRecDepth 100000 in
theorem kw_564 : (Jvm.Cond.code ({ cls := "LackFerry$Strait", name := "isMissTold", desc := "(II)Z" } : Jvm.MethodName) prog_9_method_19_code (4 : Nat) (Option.some Jvm.ClassFile.FieldType.boolean)) ∈ ab_G := ab_gm (tb_in3 (List.mem_of_getElem? (i := 84) rfl)) rfl
set_option maxRecDepth 100000 in
theorem kw_565 : (Jvm.Cond.methodLink "LackFerry$Strait" (88 : Nat) ({ cls := "LackFerry$Tokens", name := "takeSign", desc := "(I)Z" } : Jvm.MethodName)) ∈ ab_G := ab_gm (tb_in3 (List.mem_of_getElem? (i := 85) rfl)) rfl
set_option maxRecDepth 100000 in
theorem kw_566 : (Jvm.Cond.instanceMethod ({ cls := "LackFerry$Tokens", name := "takeSign", desc := "(I)Z" } : Jvm.MethodName)) ∈ ab_G := ab_gm (tb_in3 (List.mem_of_getElem? (i := 86) rfl)) rfl
set_option maxRecDepth 100000 in
theorem kw_567 : (Jvm.Cond.selects "LackFerry$Tokens" ({ cls := "LackFerry$Tokens", name := "takeSign", desc := "(I)Z" } : Jvm.MethodName) ({ cls := "LackFerry$Tokens", name := "takeSign", desc := "(I)Z" } : Jvm.MethodName)) ∈ ab_G := ab_gm (tb_in3 (List.mem_of_getElem? (i := 87) rfl)) rfl
set_option maxRecDepth 100000 in
theorem kw_568 : (Jvm.Cond.code ({ cls := "LackFerry$Tokens", name := "takeSign", desc := "(I)Z" } : Jvm.MethodName) prog_11_method_6_code (2 : Nat) (Option.some Jvm.ClassFile.FieldType.boolean)) ∈ ab_G := ab_gm (tb_in3 (List.mem_of_getElem? (i := 88) rfl)) rfl
set_option maxRecDepth 100000 in
theorem kw_569 : (Jvm.Cond.methodLink "LackFerry" (125 : Nat) ({ cls := "LackFerry$Shores", name := "beginAs", desc := "(LLackFerry$Strait;)V" } : Jvm.MethodName)) ∈ ab_G := ab_gm (tb_in3 (List.mem_of_getElem? (i := 89) rfl)) rfl
set_option maxRecDepth 100000 in
theorem kw_570 : (Jvm.Cond.instanceMethod ({ cls := "LackFerry$Shores", name := "beginAs", desc := "(LLackFerry$Strait;)V" } : Jvm.MethodName)) ∈ ab_G := ab_gm (tb_in3 (List.mem_of_getElem? (i := 90) rfl)) rfl
set_option maxRecDepth 100000 in
theorem kw_571 : (Jvm.Cond.selects "LackFerry$Shores" ({ cls := "LackFerry$Shores", name := "beginAs", desc := "(LLackFerry$Strait;)V" } : Jvm.MethodName) ({ cls := "LackFerry$Shores", name := "beginAs", desc := "(LLackFerry$Strait;)V" } : Jvm.MethodName)) ∈ ab_G := ab_gm (tb_in3 (List.mem_of_getElem? (i := 91) rfl)) rfl
set_option maxRecDepth 100000 in
theorem kw_572 : (Jvm.Cond.code ({ cls := "LackFerry$Shores", name := "beginAs", desc := "(LLackFerry$Strait;)V" } : Jvm.MethodName) prog_8_method_2_code (3 : Nat) (Option.none : Option Jvm.ClassFile.FieldType)) ∈ ab_G := ab_gm (tb_in3 (List.mem_of_getElem? (i := 92) rfl)) rfl
set_option maxRecDepth 100000 in
theorem kw_573 : (Jvm.Cond.methodLink "LackFerry$Shores" (33 : Nat) ({ cls := "LackFerry$Strait", name := "amountOf", desc := "(II)I" } : Jvm.MethodName)) ∈ ab_G := ab_gm (tb_in3 (List.mem_of_getElem? (i := 93) rfl)) rfl
set_option maxRecDepth 100000 in
theorem kw_574 : (Jvm.Cond.instanceMethod ({ cls := "LackFerry$Strait", name := "amountOf", desc := "(II)I" } : Jvm.MethodName)) ∈ ab_G := ab_gm (tb_in3 (List.mem_of_getElem? (i := 94) rfl)) rfl
set_option maxRecDepth 100000 in
theorem kw_575 : (Jvm.Cond.selects "LackFerry$Strait" ({ cls := "LackFerry$Strait", name := "amountOf", desc := "(II)I" } : Jvm.MethodName) ({ cls := "LackFerry$Strait", name := "amountOf", desc := "(II)I" } : Jvm.MethodName)) ∈ ab_G := ab_gm (tb_in3 (List.mem_of_getElem? (i := 95) rfl)) rfl
set_option maxRecDepth 100000 in
theorem kw_576 : (Jvm.Cond.code ({ cls := "LackFerry$Strait", name := "amountOf", desc := "(II)I" } : Jvm.MethodName) prog_9_method_2_code (3 : Nat) (Option.some Jvm.ClassFile.FieldType.int)) ∈ ab_G := ab_gm (tb_in3 (List.mem_of_getElem? (i := 96) rfl)) rfl
set_option maxRecDepth 100000 in
theorem kw_577 : (Jvm.Cond.methodLink "LackFerry" (133 : Nat) ({ cls := "LackFerry$History", name := "forget", desc := "()V" } : Jvm.MethodName)) ∈ ab_G := ab_gm (tb_in3 (List.mem_of_getElem? (i := 97) rfl)) rfl
set_option maxRecDepth 100000 in
theorem kw_578 : (Jvm.Cond.instanceMethod ({ cls := "LackFerry$History", name := "forget", desc := "()V" } : Jvm.MethodName)) ∈ ab_G := ab_gm (tb_in3 (List.mem_of_getElem? (i := 98) rfl)) rfl
set_option maxRecDepth 100000 in
theorem kw_579 : (Jvm.Cond.selects "LackFerry$History" ({ cls := "LackFerry$History", name := "forget", desc := "()V" } : Jvm.MethodName) ({ cls := "LackFerry$History", name := "forget", desc := "()V" } : Jvm.MethodName)) ∈ ab_G := ab_gm (tb_in3 (List.mem_of_getElem? (i := 99) rfl)) rfl
set_option maxRecDepth 100000 in
theorem kw_580 : (Jvm.Cond.code ({ cls := "LackFerry$History", name := "forget", desc := "()V" } : Jvm.MethodName) prog_4_method_2_code (1 : Nat) (Option.none : Option Jvm.ClassFile.FieldType)) ∈ ab_G := ab_gm (tb_in3 (List.mem_of_getElem? (i := 100) rfl)) rfl
set_option maxRecDepth 100000 in
theorem kw_581 : (Jvm.Cond.methodLink "LackFerryLaw" (34 : Nat) ({ cls := "LackFerry", name := "fault", desc := "()I" } : Jvm.MethodName)) ∈ ab_G := ab_gm (tb_in3 (List.mem_of_getElem? (i := 101) rfl)) rfl
set_option maxRecDepth 100000 in
theorem kw_582 : (Jvm.Cond.instanceMethod ({ cls := "LackFerry", name := "fault", desc := "()I" } : Jvm.MethodName)) ∈ ab_G := ab_gm (tb_in3 (List.mem_of_getElem? (i := 102) rfl)) rfl
set_option maxRecDepth 100000 in
theorem kw_583 : (Jvm.Cond.selects "LackFerry" ({ cls := "LackFerry", name := "fault", desc := "()I" } : Jvm.MethodName) ({ cls := "LackFerry", name := "fault", desc := "()I" } : Jvm.MethodName)) ∈ ab_G := ab_gm (tb_in3 (List.mem_of_getElem? (i := 103) rfl)) rfl
set_option maxRecDepth 100000 in
theorem kw_584 : (Jvm.Cond.code ({ cls := "LackFerry", name := "fault", desc := "()I" } : Jvm.MethodName) prog_1_method_5_code (1 : Nat) (Option.some Jvm.ClassFile.FieldType.int)) ∈ ab_G := ab_gm (tb_in3 (List.mem_of_getElem? (i := 104) rfl)) rfl
set_option maxRecDepth 100000 in
theorem kw_585 : (Jvm.Cond.methodLink "LackFerryLaw" (38 : Nat) ({ cls := "LackFerry", name := "good", desc := "(III)I" } : Jvm.MethodName)) ∈ ab_G := ab_gm (tb_in3 (List.mem_of_getElem? (i := 105) rfl)) rfl
set_option maxRecDepth 100000 in
theorem kw_586 : (Jvm.Cond.instanceMethod ({ cls := "LackFerry", name := "good", desc := "(III)I" } : Jvm.MethodName)) ∈ ab_G := ab_gm (tb_in3 (List.mem_of_getElem? (i := 106) rfl)) rfl
set_option maxRecDepth 100000 in
theorem kw_587 : (Jvm.Cond.selects "LackFerry" ({ cls := "LackFerry", name := "good", desc := "(III)I" } : Jvm.MethodName) ({ cls := "LackFerry", name := "good", desc := "(III)I" } : Jvm.MethodName)) ∈ ab_G := ab_gm (tb_in3 (List.mem_of_getElem? (i := 107) rfl)) rfl
set_option maxRecDepth 100000 in
theorem kw_588 : (Jvm.Cond.code ({ cls := "LackFerry", name := "good", desc := "(III)I" } : Jvm.MethodName) prog_1_method_13_code (5 : Nat) (Option.some Jvm.ClassFile.FieldType.int)) ∈ ab_G := ab_gm (tb_in3 (List.mem_of_getElem? (i := 108) rfl)) rfl
set_option maxRecDepth 100000 in
theorem kw_589 : (Jvm.Cond.methodLink "LackFerry" (155 : Nat) ({ cls := "LackFerry", name := "isSlot", desc := "(II)Z" } : Jvm.MethodName)) ∈ ab_G := ab_gm (tb_in3 (List.mem_of_getElem? (i := 109) rfl)) rfl
set_option maxRecDepth 100000 in
theorem kw_591 : (Jvm.Cond.instanceMethod ({ cls := "LackFerry", name := "isSlot", desc := "(II)Z" } : Jvm.MethodName)) ∈ ab_G := ab_gm (tb_in3 (List.mem_of_getElem? (i := 111) rfl)) rfl
set_option maxRecDepth 100000 in
theorem kw_592 : (Jvm.Cond.code ({ cls := "LackFerry", name := "isSlot", desc := "(II)Z" } : Jvm.MethodName) prog_1_method_8_code (3 : Nat) (Option.some Jvm.ClassFile.FieldType.boolean)) ∈ ab_G := ab_gm (tb_in3 (List.mem_of_getElem? (i := 112) rfl)) rfl
set_option maxRecDepth 100000 in
theorem kw_593 : (Jvm.Cond.methodLink "LackFerry" (139 : Nat) ({ cls := "LackFerry", name := "isGood", desc := "(I)Z" } : Jvm.MethodName)) ∈ ab_G := ab_gm (tb_in3 (List.mem_of_getElem? (i := 113) rfl)) rfl
set_option maxRecDepth 100000 in
theorem kw_595 : (Jvm.Cond.instanceMethod ({ cls := "LackFerry", name := "isGood", desc := "(I)Z" } : Jvm.MethodName)) ∈ ab_G := ab_gm (tb_in3 (List.mem_of_getElem? (i := 115) rfl)) rfl
set_option maxRecDepth 100000 in
theorem kw_596 : (Jvm.Cond.code ({ cls := "LackFerry", name := "isGood", desc := "(I)Z" } : Jvm.MethodName) prog_1_method_6_code (2 : Nat) (Option.some Jvm.ClassFile.FieldType.boolean)) ∈ ab_G := ab_gm (tb_in3 (List.mem_of_getElem? (i := 116) rfl)) rfl
set_option maxRecDepth 100000 in
theorem kw_597 : (Jvm.Cond.methodLink "LackFerry" (143 : Nat) ({ cls := "LackFerry", name := "isShore", desc := "(I)Z" } : Jvm.MethodName)) ∈ ab_G := ab_gm (tb_in3 (List.mem_of_getElem? (i := 117) rfl)) rfl
set_option maxRecDepth 100000 in
theorem kw_598 : (Jvm.Cond.static ({ cls := "LackFerry", name := "isShore", desc := "(I)Z" } : Jvm.MethodName)) ∈ ab_G := ab_gm (tb_in3 (List.mem_of_getElem? (i := 118) rfl)) rfl
set_option maxRecDepth 100000 in
theorem kw_599 : (Jvm.Cond.code ({ cls := "LackFerry", name := "isShore", desc := "(I)Z" } : Jvm.MethodName) prog_1_method_7_code (1 : Nat) (Option.some Jvm.ClassFile.FieldType.boolean)) ∈ ab_G := ab_gm (tb_in3 (List.mem_of_getElem? (i := 119) rfl)) rfl
set_option maxRecDepth 100000 in
theorem kw_600 : (Jvm.Cond.methodLink "LackFerry" (159 : Nat) ({ cls := "LackFerry", name := "slotOf", desc := "(II)I" } : Jvm.MethodName)) ∈ ab_G := ab_gm (tb_in3 (List.mem_of_getElem? (i := 120) rfl)) rfl
set_option maxRecDepth 100000 in
theorem kw_601 : (Jvm.Cond.methodLink "LackFerry" (169 : Nat) ({ cls := "LackFerry$Strait", name := "amountOf", desc := "(II)I" } : Jvm.MethodName)) ∈ ab_G := ab_gm (tb_in3 (List.mem_of_getElem? (i := 121) rfl)) rfl
set_option maxRecDepth 100000 in
theorem kw_602 : (Jvm.Cond.methodLink "LackFerry" (172 : Nat) ({ cls := "LackFerry$Shores", name := "lackAt", desc := "(LLackFerry$Strait;I)I" } : Jvm.MethodName)) ∈ ab_G := ab_gm (tb_in3 (List.mem_of_getElem? (i := 122) rfl)) rfl
set_option maxRecDepth 100000 in
theorem kw_603 : (Jvm.Cond.instanceMethod ({ cls := "LackFerry$Shores", name := "lackAt", desc := "(LLackFerry$Strait;I)I" } : Jvm.MethodName)) ∈ ab_G := ab_gm (tb_in3 (List.mem_of_getElem? (i := 123) rfl)) rfl
set_option maxRecDepth 100000 in
theorem kw_604 : (Jvm.Cond.selects "LackFerry$Shores" ({ cls := "LackFerry$Shores", name := "lackAt", desc := "(LLackFerry$Strait;I)I" } : Jvm.MethodName) ({ cls := "LackFerry$Shores", name := "lackAt", desc := "(LLackFerry$Strait;I)I" } : Jvm.MethodName)) ∈ ab_G := ab_gm (tb_in3 (List.mem_of_getElem? (i := 124) rfl)) rfl
set_option maxRecDepth 100000 in
theorem kw_605 : (Jvm.Cond.code ({ cls := "LackFerry$Shores", name := "lackAt", desc := "(LLackFerry$Strait;I)I" } : Jvm.MethodName) prog_8_method_6_code (3 : Nat) (Option.some Jvm.ClassFile.FieldType.int)) ∈ ab_G := ab_gm (tb_in3 (List.mem_of_getElem? (i := 125) rfl)) rfl
set_option maxRecDepth 100000 in
theorem kw_606 : (Jvm.Cond.methodLink "LackFerry$Shores" (58 : Nat) ({ cls := "java/lang/Math", name := "max", desc := "(II)I" } : Jvm.MethodName)) ∈ ab_G := ab_gm (tb_in3 (List.mem_of_getElem? (i := 126) rfl)) rfl
set_option maxRecDepth 100000 in
theorem kw_607 : (Jvm.Cond.static ({ cls := "java/lang/Math", name := "max", desc := "(II)I" } : Jvm.MethodName)) ∈ ab_G := ab_gm (tb_in3 (List.mem_of_getElem? (i := 127) rfl)) rfl
set_option maxRecDepth 100000 in
theorem kw_608 : (Jvm.Cond.code ({ cls := "java/lang/Math", name := "max", desc := "(II)I" } : Jvm.MethodName) prog_19_method_65_code (2 : Nat) (Option.some Jvm.ClassFile.FieldType.int)) ∈ ab_G := ab_gm (tb_in3 (List.mem_of_getElem? (i := 128) rfl)) rfl
set_option maxRecDepth 100000 in
theorem kw_609 : (Jvm.Cond.methodLink "LackFerry" (176 : Nat) ({ cls := "LackFerry$Shores", name := "isFalse", desc := "(LLackFerry$Strait;I)Z" } : Jvm.MethodName)) ∈ ab_G := ab_gm (tb_in3 (List.mem_of_getElem? (i := 129) rfl)) rfl
set_option maxRecDepth 100000 in
theorem kw_610 : (Jvm.Cond.instanceMethod ({ cls := "LackFerry$Shores", name := "isFalse", desc := "(LLackFerry$Strait;I)Z" } : Jvm.MethodName)) ∈ ab_G := ab_gm (tb_in3 (List.mem_of_getElem? (i := 130) rfl)) rfl
set_option maxRecDepth 100000 in
theorem kw_611 : (Jvm.Cond.selects "LackFerry$Shores" ({ cls := "LackFerry$Shores", name := "isFalse", desc := "(LLackFerry$Strait;I)Z" } : Jvm.MethodName) ({ cls := "LackFerry$Shores", name := "isFalse", desc := "(LLackFerry$Strait;I)Z" } : Jvm.MethodName)) ∈ ab_G := ab_gm (tb_in3 (List.mem_of_getElem? (i := 131) rfl)) rfl
set_option maxRecDepth 100000 in
theorem kw_612 : (Jvm.Cond.code ({ cls := "LackFerry$Shores", name := "isFalse", desc := "(LLackFerry$Strait;I)Z" } : Jvm.MethodName) prog_8_method_7_code (4 : Nat) (Option.some Jvm.ClassFile.FieldType.boolean)) ∈ ab_G := ab_gm (tb_in3 (List.mem_of_getElem? (i := 132) rfl)) rfl
set_option maxRecDepth 100000 in
theorem kw_613 : (Jvm.Cond.methodLink "LackFerryLaw" (43 : Nat) ({ cls := "LackFerry", name := "crossed", desc := "(II)I" } : Jvm.MethodName)) ∈ ab_G := ab_gm (tb_in3 (List.mem_of_getElem? (i := 133) rfl)) rfl
set_option maxRecDepth 100000 in
theorem kw_614 : (Jvm.Cond.instanceMethod ({ cls := "LackFerry", name := "crossed", desc := "(II)I" } : Jvm.MethodName)) ∈ ab_G := ab_gm (tb_in3 (List.mem_of_getElem? (i := 134) rfl)) rfl
set_option maxRecDepth 100000 in
theorem kw_615 : (Jvm.Cond.selects "LackFerry" ({ cls := "LackFerry", name := "crossed", desc := "(II)I" } : Jvm.MethodName) ({ cls := "LackFerry", name := "crossed", desc := "(II)I" } : Jvm.MethodName)) ∈ ab_G := ab_gm (tb_in3 (List.mem_of_getElem? (i := 135) rfl)) rfl
set_option maxRecDepth 100000 in
theorem kw_616 : (Jvm.Cond.code ({ cls := "LackFerry", name := "crossed", desc := "(II)I" } : Jvm.MethodName) prog_1_method_14_code (3 : Nat) (Option.some Jvm.ClassFile.FieldType.int)) ∈ ab_G := ab_gm (tb_in3 (List.mem_of_getElem? (i := 136) rfl)) rfl
set_option maxRecDepth 100000 in
theorem kw_617 : (Jvm.Cond.methodLink "LackFerryLaw" (53 : Nat) ({ cls := "LackFerry", name := "apart", desc := "(II)I" } : Jvm.MethodName)) ∈ ab_G := ab_gm (tb_in3 (List.mem_of_getElem? (i := 137) rfl)) rfl
set_option maxRecDepth 100000 in
theorem kw_618 : (Jvm.Cond.instanceMethod ({ cls := "LackFerry", name := "apart", desc := "(II)I" } : Jvm.MethodName)) ∈ ab_G := ab_gm (tb_in3 (List.mem_of_getElem? (i := 138) rfl)) rfl
set_option maxRecDepth 100000 in
theorem kw_619 : (Jvm.Cond.selects "LackFerry" ({ cls := "LackFerry", name := "apart", desc := "(II)I" } : Jvm.MethodName) ({ cls := "LackFerry", name := "apart", desc := "(II)I" } : Jvm.MethodName)) ∈ ab_G := ab_gm (tb_in3 (List.mem_of_getElem? (i := 139) rfl)) rfl
set_option maxRecDepth 100000 in
theorem kw_620 : (Jvm.Cond.code ({ cls := "LackFerry", name := "apart", desc := "(II)I" } : Jvm.MethodName) prog_1_method_16_code (3 : Nat) (Option.some Jvm.ClassFile.FieldType.int)) ∈ ab_G := ab_gm (tb_in3 (List.mem_of_getElem? (i := 140) rfl)) rfl
set_option maxRecDepth 100000 in
theorem kw_621 : (Jvm.Cond.methodLink "LackFerry" (207 : Nat) ({ cls := "LackFerry", name := "areLivingTwo", desc := "(II)Z" } : Jvm.MethodName)) ∈ ab_G := ab_gm (tb_in3 (List.mem_of_getElem? (i := 141) rfl)) rfl
set_option maxRecDepth 100000 in
theorem kw_623 : (Jvm.Cond.instanceMethod ({ cls := "LackFerry", name := "areLivingTwo", desc := "(II)Z" } : Jvm.MethodName)) ∈ ab_G := ab_gm (tb_in3 (List.mem_of_getElem? (i := 143) rfl)) rfl
set_option maxRecDepth 100000 in
theorem kw_624 : (Jvm.Cond.code ({ cls := "LackFerry", name := "areLivingTwo", desc := "(II)Z" } : Jvm.MethodName) prog_1_method_10_code (3 : Nat) (Option.some Jvm.ClassFile.FieldType.boolean)) ∈ ab_G := ab_gm (tb_in3 (List.mem_of_getElem? (i := 144) rfl)) rfl
set_option maxRecDepth 100000 in
theorem kw_625 : (Jvm.Cond.methodLink "LackFerry" (149 : Nat) ({ cls := "LackFerry", name := "isMan", desc := "(I)Z" } : Jvm.MethodName)) ∈ ab_G := ab_gm (tb_in3 (List.mem_of_getElem? (i := 145) rfl)) rfl
set_option maxRecDepth 100000 in
theorem kw_627 : (Jvm.Cond.instanceMethod ({ cls := "LackFerry", name := "isMan", desc := "(I)Z" } : Jvm.MethodName)) ∈ ab_G := ab_gm (tb_in3 (List.mem_of_getElem? (i := 147) rfl)) rfl
set_option maxRecDepth 100000 in
theorem kw_628 : (Jvm.Cond.code ({ cls := "LackFerry", name := "isMan", desc := "(I)Z" } : Jvm.MethodName) prog_1_method_9_code (2 : Nat) (Option.some Jvm.ClassFile.FieldType.boolean)) ∈ ab_G := ab_gm (tb_in3 (List.mem_of_getElem? (i := 148) rfl)) rfl
set_option maxRecDepth 100000 in
theorem kw_629 : (Jvm.Cond.methodLink "LackFerry" (152 : Nat) ({ cls := "LackFerry$Shores", name := "isAlive", desc := "(I)Z" } : Jvm.MethodName)) ∈ ab_G := ab_gm (tb_in3 (List.mem_of_getElem? (i := 149) rfl)) rfl
set_option maxRecDepth 100000 in
theorem kw_630 : (Jvm.Cond.instanceMethod ({ cls := "LackFerry$Shores", name := "isAlive", desc := "(I)Z" } : Jvm.MethodName)) ∈ ab_G := ab_gm (tb_in3 (List.mem_of_getElem? (i := 150) rfl)) rfl
set_option maxRecDepth 100000 in
theorem kw_631 : (Jvm.Cond.selects "LackFerry$Shores" ({ cls := "LackFerry$Shores", name := "isAlive", desc := "(I)Z" } : Jvm.MethodName) ({ cls := "LackFerry$Shores", name := "isAlive", desc := "(I)Z" } : Jvm.MethodName)) ∈ ab_G := ab_gm (tb_in3 (List.mem_of_getElem? (i := 151) rfl)) rfl
set_option maxRecDepth 100000 in
theorem kw_632 : (Jvm.Cond.code ({ cls := "LackFerry$Shores", name := "isAlive", desc := "(I)Z" } : Jvm.MethodName) prog_8_method_9_code (2 : Nat) (Option.some Jvm.ClassFile.FieldType.boolean)) ∈ ab_G := ab_gm (tb_in3 (List.mem_of_getElem? (i := 152) rfl)) rfl
set_option maxRecDepth 100000 in
theorem kw_633 : (Jvm.Cond.methodLink "LackFerry" (210 : Nat) ({ cls := "LackFerry$Shores", name := "apartOf", desc := "(II)I" } : Jvm.MethodName)) ∈ ab_G := ab_gm (tb_in3 (List.mem_of_getElem? (i := 153) rfl)) rfl
set_option maxRecDepth 100000 in
theorem kw_634 : (Jvm.Cond.instanceMethod ({ cls := "LackFerry$Shores", name := "apartOf", desc := "(II)I" } : Jvm.MethodName)) ∈ ab_G := ab_gm (tb_in3 (List.mem_of_getElem? (i := 154) rfl)) rfl
set_option maxRecDepth 100000 in
theorem kw_635 : (Jvm.Cond.selects "LackFerry$Shores" ({ cls := "LackFerry$Shores", name := "apartOf", desc := "(II)I" } : Jvm.MethodName) ({ cls := "LackFerry$Shores", name := "apartOf", desc := "(II)I" } : Jvm.MethodName)) ∈ ab_G := ab_gm (tb_in3 (List.mem_of_getElem? (i := 155) rfl)) rfl
set_option maxRecDepth 100000 in
theorem kw_636 : (Jvm.Cond.code ({ cls := "LackFerry$Shores", name := "apartOf", desc := "(II)I" } : Jvm.MethodName) prog_8_method_11_code (3 : Nat) (Option.some Jvm.ClassFile.FieldType.int)) ∈ ab_G := ab_gm (tb_in3 (List.mem_of_getElem? (i := 156) rfl)) rfl
set_option maxRecDepth 100000 in
theorem kw_637 : (Jvm.Cond.methodLink "LackFerryLaw" (57 : Nat) ({ cls := "LackFerry", name := "now", desc := "(I)I" } : Jvm.MethodName)) ∈ ab_G := ab_gm (tb_in3 (List.mem_of_getElem? (i := 157) rfl)) rfl
set_option maxRecDepth 100000 in
theorem kw_638 : (Jvm.Cond.instanceMethod ({ cls := "LackFerry", name := "now", desc := "(I)I" } : Jvm.MethodName)) ∈ ab_G := ab_gm (tb_in3 (List.mem_of_getElem? (i := 158) rfl)) rfl
set_option maxRecDepth 100000 in
theorem kw_639 : (Jvm.Cond.selects "LackFerry" ({ cls := "LackFerry", name := "now", desc := "(I)I" } : Jvm.MethodName) ({ cls := "LackFerry", name := "now", desc := "(I)I" } : Jvm.MethodName)) ∈ ab_G := ab_gm (tb_in3 (List.mem_of_getElem? (i := 159) rfl)) rfl
set_option maxRecDepth 100000 in
theorem kw_640 : (Jvm.Cond.code ({ cls := "LackFerry", name := "now", desc := "(I)I" } : Jvm.MethodName) prog_1_method_17_code (2 : Nat) (Option.some Jvm.ClassFile.FieldType.int)) ∈ ab_G := ab_gm (tb_in3 (List.mem_of_getElem? (i := 160) rfl)) rfl
set_option maxRecDepth 100000 in
theorem kw_641 : (Jvm.Cond.methodLink "LackFerry" (216 : Nat) ({ cls := "LackFerry$Shores", name := "ferryShore", desc := "()I" } : Jvm.MethodName)) ∈ ab_G := ab_gm (tb_in3 (List.mem_of_getElem? (i := 161) rfl)) rfl
set_option maxRecDepth 100000 in
theorem kw_642 : (Jvm.Cond.instanceMethod ({ cls := "LackFerry$Shores", name := "ferryShore", desc := "()I" } : Jvm.MethodName)) ∈ ab_G := ab_gm (tb_in3 (List.mem_of_getElem? (i := 162) rfl)) rfl
set_option maxRecDepth 100000 in
theorem kw_643 : (Jvm.Cond.selects "LackFerry$Shores" ({ cls := "LackFerry$Shores", name := "ferryShore", desc := "()I" } : Jvm.MethodName) ({ cls := "LackFerry$Shores", name := "ferryShore", desc := "()I" } : Jvm.MethodName)) ∈ ab_G := ab_gm (tb_in3 (List.mem_of_getElem? (i := 163) rfl)) rfl
set_option maxRecDepth 100000 in
theorem kw_644 : (Jvm.Cond.code ({ cls := "LackFerry$Shores", name := "ferryShore", desc := "()I" } : Jvm.MethodName) prog_8_method_5_code (1 : Nat) (Option.some Jvm.ClassFile.FieldType.int)) ∈ ab_G := ab_gm (tb_in3 (List.mem_of_getElem? (i := 164) rfl)) rfl
set_option maxRecDepth 100000 in
theorem kw_645 : (Jvm.Cond.methodLink "LackFerry" (220 : Nat) ({ cls := "LackFerry$Shores", name := "menOn", desc := "(LLackFerry$Strait;I)I" } : Jvm.MethodName)) ∈ ab_G := ab_gm (tb_in3 (List.mem_of_getElem? (i := 165) rfl)) rfl
set_option maxRecDepth 100000 in
theorem kw_646 : (Jvm.Cond.instanceMethod ({ cls := "LackFerry$Shores", name := "menOn", desc := "(LLackFerry$Strait;I)I" } : Jvm.MethodName)) ∈ ab_G := ab_gm (tb_in3 (List.mem_of_getElem? (i := 166) rfl)) rfl
set_option maxRecDepth 100000 in
theorem kw_647 : (Jvm.Cond.selects "LackFerry$Shores" ({ cls := "LackFerry$Shores", name := "menOn", desc := "(LLackFerry$Strait;I)I" } : Jvm.MethodName) ({ cls := "LackFerry$Shores", name := "menOn", desc := "(LLackFerry$Strait;I)I" } : Jvm.MethodName)) ∈ ab_G := ab_gm (tb_in3 (List.mem_of_getElem? (i := 167) rfl)) rfl
set_option maxRecDepth 100000 in
theorem kw_648 : (Jvm.Cond.code ({ cls := "LackFerry$Shores", name := "menOn", desc := "(LLackFerry$Strait;I)I" } : Jvm.MethodName) prog_8_method_10_code (5 : Nat) (Option.some Jvm.ClassFile.FieldType.int)) ∈ ab_G := ab_gm (tb_in3 (List.mem_of_getElem? (i := 168) rfl)) rfl
set_option maxRecDepth 100000 in
theorem kw_649 : (Jvm.Cond.methodLink "LackFerry" (229 : Nat) ({ cls := "LackFerry$Shores", name := "hungerInAll", desc := "()I" } : Jvm.MethodName)) ∈ ab_G := ab_gm (tb_in3 (List.mem_of_getElem? (i := 169) rfl)) rfl
set_option maxRecDepth 100000 in
theorem kw_650 : (Jvm.Cond.instanceMethod ({ cls := "LackFerry$Shores", name := "hungerInAll", desc := "()I" } : Jvm.MethodName)) ∈ ab_G := ab_gm (tb_in3 (List.mem_of_getElem? (i := 170) rfl)) rfl
set_option maxRecDepth 100000 in
theorem kw_651 : (Jvm.Cond.selects "LackFerry$Shores" ({ cls := "LackFerry$Shores", name := "hungerInAll", desc := "()I" } : Jvm.MethodName) ({ cls := "LackFerry$Shores", name := "hungerInAll", desc := "()I" } : Jvm.MethodName)) ∈ ab_G := ab_gm (tb_in3 (List.mem_of_getElem? (i := 171) rfl)) rfl
set_option maxRecDepth 100000 in
theorem kw_652 : (Jvm.Cond.code ({ cls := "LackFerry$Shores", name := "hungerInAll", desc := "()I" } : Jvm.MethodName) prog_8_method_8_code (3 : Nat) (Option.some Jvm.ClassFile.FieldType.int)) ∈ ab_G := ab_gm (tb_in3 (List.mem_of_getElem? (i := 172) rfl)) rfl
set_option maxRecDepth 100000 in
theorem kw_653 : (Jvm.Cond.methodLink "LackFerryLaw" (86 : Nat) ({ cls := "LackFerry", name := "lacks", desc := "(I)I" } : Jvm.MethodName)) ∈ ab_G := ab_gm (tb_in3 (List.mem_of_getElem? (i := 173) rfl)) rfl
set_option maxRecDepth 100000 in
theorem kw_654 : (Jvm.Cond.instanceMethod ({ cls := "LackFerry", name := "lacks", desc := "(I)I" } : Jvm.MethodName)) ∈ ab_G := ab_gm (tb_in3 (List.mem_of_getElem? (i := 174) rfl)) rfl
set_option maxRecDepth 100000 in
theorem kw_655 : (Jvm.Cond.selects "LackFerry" ({ cls := "LackFerry", name := "lacks", desc := "(I)I" } : Jvm.MethodName) ({ cls := "LackFerry", name := "lacks", desc := "(I)I" } : Jvm.MethodName)) ∈ ab_G := ab_gm (tb_in3 (List.mem_of_getElem? (i := 175) rfl)) rfl
set_option maxRecDepth 100000 in
theorem kw_656 : (Jvm.Cond.code ({ cls := "LackFerry", name := "lacks", desc := "(I)I" } : Jvm.MethodName) prog_1_method_18_code (4 : Nat) (Option.some Jvm.ClassFile.FieldType.int)) ∈ ab_G := ab_gm (tb_in3 (List.mem_of_getElem? (i := 176) rfl)) rfl
set_option maxRecDepth 100000 in
theorem kw_657 : (Jvm.Cond.methodLink "LackFerryLaw" (90 : Nat) ({ cls := "LackFerry", name := "falses", desc := "(I)I" } : Jvm.MethodName)) ∈ ab_G := ab_gm (tb_in3 (List.mem_of_getElem? (i := 177) rfl)) rfl
set_option maxRecDepth 100000 in
theorem kw_658 : (Jvm.Cond.instanceMethod ({ cls := "LackFerry", name := "falses", desc := "(I)I" } : Jvm.MethodName)) ∈ ab_G := ab_gm (tb_in3 (List.mem_of_getElem? (i := 178) rfl)) rfl
set_option maxRecDepth 100000 in
theorem kw_659 : (Jvm.Cond.selects "LackFerry" ({ cls := "LackFerry", name := "falses", desc := "(I)I" } : Jvm.MethodName) ({ cls := "LackFerry", name := "falses", desc := "(I)I" } : Jvm.MethodName)) ∈ ab_G := ab_gm (tb_in3 (List.mem_of_getElem? (i := 179) rfl)) rfl
set_option maxRecDepth 100000 in
theorem kw_660 : (Jvm.Cond.code ({ cls := "LackFerry", name := "falses", desc := "(I)I" } : Jvm.MethodName) prog_1_method_19_code (4 : Nat) (Option.some Jvm.ClassFile.FieldType.int)) ∈ ab_G := ab_gm (tb_in3 (List.mem_of_getElem? (i := 180) rfl)) rfl
set_option maxRecDepth 100000 in
theorem kw_661 : (Jvm.Cond.methodLink "LackFerryLaw" (143 : Nat) ({ cls := "LackFerry", name := "dearest", desc := "()I" } : Jvm.MethodName)) ∈ ab_G := ab_gm (tb_in3 (List.mem_of_getElem? (i := 181) rfl)) rfl
set_option maxRecDepth 100000 in
theorem kw_662 : (Jvm.Cond.instanceMethod ({ cls := "LackFerry", name := "dearest", desc := "()I" } : Jvm.MethodName)) ∈ ab_G := ab_gm (tb_in3 (List.mem_of_getElem? (i := 182) rfl)) rfl
set_option maxRecDepth 100000 in
theorem kw_663 : (Jvm.Cond.selects "LackFerry" ({ cls := "LackFerry", name := "dearest", desc := "()I" } : Jvm.MethodName) ({ cls := "LackFerry", name := "dearest", desc := "()I" } : Jvm.MethodName)) ∈ ab_G := ab_gm (tb_in3 (List.mem_of_getElem? (i := 183) rfl)) rfl
set_option maxRecDepth 100000 in
theorem kw_664 : (Jvm.Cond.code ({ cls := "LackFerry", name := "dearest", desc := "()I" } : Jvm.MethodName) prog_1_method_20_code (5 : Nat) (Option.some Jvm.ClassFile.FieldType.int)) ∈ ab_G := ab_gm (tb_in3 (List.mem_of_getElem? (i := 184) rfl)) rfl
set_option maxRecDepth 100000 in
theorem kw_665 : (Jvm.Cond.methodLink "LackFerry" (196 : Nat) ({ cls := "LackFerry$Shores", name := "missersOf", desc := "(LLackFerry$Strait;I)I" } : Jvm.MethodName)) ∈ ab_G := ab_gm (tb_in3 (List.mem_of_getElem? (i := 185) rfl)) rfl
set_option maxRecDepth 100000 in
theorem kw_666 : (Jvm.Cond.instanceMethod ({ cls := "LackFerry$Shores", name := "missersOf", desc := "(LLackFerry$Strait;I)I" } : Jvm.MethodName)) ∈ ab_G := ab_gm (tb_in3 (List.mem_of_getElem? (i := 186) rfl)) rfl
set_option maxRecDepth 100000 in
theorem kw_667 : (Jvm.Cond.selects "LackFerry$Shores" ({ cls := "LackFerry$Shores", name := "missersOf", desc := "(LLackFerry$Strait;I)I" } : Jvm.MethodName) ({ cls := "LackFerry$Shores", name := "missersOf", desc := "(LLackFerry$Strait;I)I" } : Jvm.MethodName)) ∈ ab_G := ab_gm (tb_in3 (List.mem_of_getElem? (i := 187) rfl)) rfl
set_option maxRecDepth 100000 in
theorem kw_668 : (Jvm.Cond.code ({ cls := "LackFerry$Shores", name := "missersOf", desc := "(LLackFerry$Strait;I)I" } : Jvm.MethodName) prog_8_method_14_code (5 : Nat) (Option.some Jvm.ClassFile.FieldType.int)) ∈ ab_G := ab_gm (tb_in3 (List.mem_of_getElem? (i := 188) rfl)) rfl
set_option maxRecDepth 100000 in
theorem kw_669 : (Jvm.Cond.methodLink "LackFerry$Shores" (81 : Nat) ({ cls := "LackFerry$Shores", name := "isFelt", desc := "(LLackFerry$Strait;I)Z" } : Jvm.MethodName)) ∈ ab_G := ab_gm (tb_in3 (List.mem_of_getElem? (i := 189) rfl)) rfl
set_option maxRecDepth 100000 in
theorem kw_671 : (Jvm.Cond.instanceMethod ({ cls := "LackFerry$Shores", name := "isFelt", desc := "(LLackFerry$Strait;I)Z" } : Jvm.MethodName)) ∈ ab_G := ab_gm (tb_in3 (List.mem_of_getElem? (i := 191) rfl)) rfl
set_option maxRecDepth 100000 in
theorem kw_672 : (Jvm.Cond.code ({ cls := "LackFerry$Shores", name := "isFelt", desc := "(LLackFerry$Strait;I)Z" } : Jvm.MethodName) prog_8_method_12_code (6 : Nat) (Option.some Jvm.ClassFile.FieldType.boolean)) ∈ ab_G := ab_gm (tb_in3 (List.mem_of_getElem? (i := 192) rfl)) rfl
set_option maxRecDepth 100000 in
theorem kw_673 : (Jvm.Cond.methodLink "LackFerry$Shores" (72 : Nat) ({ cls := "LackFerry$Shores", name := "apartOf", desc := "(II)I" } : Jvm.MethodName)) ∈ ab_G := ab_gm (tb_in3 (List.mem_of_getElem? (i := 193) rfl)) rfl
set_option maxRecDepth 100000 in
theorem kw_674 : (Jvm.Cond.methodLink "LackFerry" (232 : Nat) ({ cls := "java/lang/Integer", name := "bitCount", desc := "(I)I" } : Jvm.MethodName)) ∈ ab_G := ab_gm (tb_in3 (List.mem_of_getElem? (i := 194) rfl)) rfl
set_option maxRecDepth 100000 in
theorem kw_675 : (Jvm.Cond.static ({ cls := "java/lang/Integer", name := "bitCount", desc := "(I)I" } : Jvm.MethodName)) ∈ ab_G := ab_gm (tb_in3 (List.mem_of_getElem? (i := 195) rfl)) rfl
set_option maxRecDepth 100000 in
theorem kw_676 : (Jvm.Cond.code ({ cls := "java/lang/Integer", name := "bitCount", desc := "(I)I" } : Jvm.MethodName) prog_18_method_49_code (1 : Nat) (Option.some Jvm.ClassFile.FieldType.int)) ∈ ab_G := ab_gm (tb_in3 (List.mem_of_getElem? (i := 196) rfl)) rfl
set_option maxRecDepth 100000 in
theorem kw_677 : (Jvm.Cond.constant "java/lang/Integer" (265 : Nat) (1431655765 : Int32)) ∈ ab_G := ab_gm (tb_in3 (List.mem_of_getElem? (i := 197) rfl)) rfl
set_option maxRecDepth 100000 in
theorem kw_678 : (Jvm.Cond.constant "java/lang/Integer" (266 : Nat) (858993459 : Int32)) ∈ ab_G := ab_gm (tb_in3 (List.mem_of_getElem? (i := 198) rfl)) rfl
set_option maxRecDepth 100000 in
theorem kw_679 : (Jvm.Cond.constant "java/lang/Integer" (267 : Nat) (252645135 : Int32)) ∈ ab_G := ab_gm (tb_in3 (List.mem_of_getElem? (i := 199) rfl)) rfl
set_option maxRecDepth 100000 in
theorem kw_680 : (Jvm.Cond.methodLink "LackFerryLaw" (147 : Nat) ({ cls := "LackFerry", name := "rats", desc := "()I" } : Jvm.MethodName)) ∈ ab_G := ab_gm (tb_in3 (List.mem_of_getElem? (i := 200) rfl)) rfl
set_option maxRecDepth 100000 in
theorem kw_681 : (Jvm.Cond.instanceMethod ({ cls := "LackFerry", name := "rats", desc := "()I" } : Jvm.MethodName)) ∈ ab_G := ab_gm (tb_in3 (List.mem_of_getElem? (i := 201) rfl)) rfl
set_option maxRecDepth 100000 in
theorem kw_682 : (Jvm.Cond.selects "LackFerry" ({ cls := "LackFerry", name := "rats", desc := "()I" } : Jvm.MethodName) ({ cls := "LackFerry", name := "rats", desc := "()I" } : Jvm.MethodName)) ∈ ab_G := ab_gm (tb_in3 (List.mem_of_getElem? (i := 202) rfl)) rfl
set_option maxRecDepth 100000 in
theorem kw_683 : (Jvm.Cond.code ({ cls := "LackFerry", name := "rats", desc := "()I" } : Jvm.MethodName) prog_1_method_21_code (3 : Nat) (Option.some Jvm.ClassFile.FieldType.int)) ∈ ab_G := ab_gm (tb_in3 (List.mem_of_getElem? (i := 203) rfl)) rfl
set_option maxRecDepth 100000 in
theorem kw_684 : (Jvm.Cond.methodLink "LackFerry" (238 : Nat) ({ cls := "LackFerry$Shores", name := "couldBeMissed", desc := "(LLackFerry$Strait;I)Z" } : Jvm.MethodName)) ∈ ab_G := ab_gm (tb_in3 (List.mem_of_getElem? (i := 204) rfl)) rfl
set_option maxRecDepth 100000 in
theorem kw_685 : (Jvm.Cond.instanceMethod ({ cls := "LackFerry$Shores", name := "couldBeMissed", desc := "(LLackFerry$Strait;I)Z" } : Jvm.MethodName)) ∈ ab_G := ab_gm (tb_in3 (List.mem_of_getElem? (i := 205) rfl)) rfl
set_option maxRecDepth 100000 in
theorem kw_686 : (Jvm.Cond.selects "LackFerry$Shores" ({ cls := "LackFerry$Shores", name := "couldBeMissed", desc := "(LLackFerry$Strait;I)Z" } : Jvm.MethodName) ({ cls := "LackFerry$Shores", name := "couldBeMissed", desc := "(LLackFerry$Strait;I)Z" } : Jvm.MethodName)) ∈ ab_G := ab_gm (tb_in3 (List.mem_of_getElem? (i := 206) rfl)) rfl
set_option maxRecDepth 100000 in
theorem kw_687 : (Jvm.Cond.code ({ cls := "LackFerry$Shores", name := "couldBeMissed", desc := "(LLackFerry$Strait;I)Z" } : Jvm.MethodName) prog_8_method_16_code (4 : Nat) (Option.some Jvm.ClassFile.FieldType.boolean)) ∈ ab_G := ab_gm (tb_in3 (List.mem_of_getElem? (i := 207) rfl)) rfl
set_option maxRecDepth 100000 in
theorem kw_688 : (Jvm.Cond.methodLink "LackFerry$Shores" (85 : Nat) ({ cls := "LackFerry$Shores", name := "isAlive", desc := "(I)Z" } : Jvm.MethodName)) ∈ ab_G := ab_gm (tb_in3 (List.mem_of_getElem? (i := 208) rfl)) rfl
set_option maxRecDepth 100000 in
theorem kw_689 : (Jvm.Cond.methodLink "LackFerryLaw" (151 : Nat) ({ cls := "LackFerry", name := "hoarded", desc := "(I)I" } : Jvm.MethodName)) ∈ ab_G := ab_gm (tb_in3 (List.mem_of_getElem? (i := 209) rfl)) rfl
set_option maxRecDepth 100000 in
theorem kw_690 : (Jvm.Cond.instanceMethod ({ cls := "LackFerry", name := "hoarded", desc := "(I)I" } : Jvm.MethodName)) ∈ ab_G := ab_gm (tb_in3 (List.mem_of_getElem? (i := 210) rfl)) rfl
set_option maxRecDepth 100000 in
theorem kw_691 : (Jvm.Cond.selects "LackFerry" ({ cls := "LackFerry", name := "hoarded", desc := "(I)I" } : Jvm.MethodName) ({ cls := "LackFerry", name := "hoarded", desc := "(I)I" } : Jvm.MethodName)) ∈ ab_G := ab_gm (tb_in3 (List.mem_of_getElem? (i := 211) rfl)) rfl
set_option maxRecDepth 100000 in
theorem kw_692 : (Jvm.Cond.code ({ cls := "LackFerry", name := "hoarded", desc := "(I)I" } : Jvm.MethodName) prog_1_method_22_code (6 : Nat) (Option.some Jvm.ClassFile.FieldType.int)) ∈ ab_G := ab_gm (tb_in3 (List.mem_of_getElem? (i := 212) rfl)) rfl
set_option maxRecDepth 100000 in
theorem kw_693 : (Jvm.Cond.methodLink "LackFerryLaw" (187 : Nat) ({ cls := "LackFerry", name := "count", desc := "(I)I" } : Jvm.MethodName)) ∈ ab_G := ab_gm (tb_in3 (List.mem_of_getElem? (i := 213) rfl)) rfl
set_option maxRecDepth 100000 in
theorem kw_694 : (Jvm.Cond.instanceMethod ({ cls := "LackFerry", name := "count", desc := "(I)I" } : Jvm.MethodName)) ∈ ab_G := ab_gm (tb_in3 (List.mem_of_getElem? (i := 214) rfl)) rfl
set_option maxRecDepth 100000 in
theorem kw_695 : (Jvm.Cond.selects "LackFerry" ({ cls := "LackFerry", name := "count", desc := "(I)I" } : Jvm.MethodName) ({ cls := "LackFerry", name := "count", desc := "(I)I" } : Jvm.MethodName)) ∈ ab_G := ab_gm (tb_in3 (List.mem_of_getElem? (i := 215) rfl)) rfl
set_option maxRecDepth 100000 in
theorem kw_696 : (Jvm.Cond.code ({ cls := "LackFerry", name := "count", desc := "(I)I" } : Jvm.MethodName) prog_1_method_23_code (2 : Nat) (Option.some Jvm.ClassFile.FieldType.int)) ∈ ab_G := ab_gm (tb_in3 (List.mem_of_getElem? (i := 216) rfl)) rfl
set_option maxRecDepth 100000 in
theorem kw_697 : (Jvm.Cond.methodLink "LackFerryLaw" (62 : Nat) ({ cls := "LackFerry", name := "hoard", desc := "(III)I" } : Jvm.MethodName)) ∈ ab_G := ab_gm (tb_in3 (List.mem_of_getElem? (i := 217) rfl)) rfl
set_option maxRecDepth 100000 in
theorem kw_698 : (Jvm.Cond.instanceMethod ({ cls := "LackFerry", name := "hoard", desc := "(III)I" } : Jvm.MethodName)) ∈ ab_G := ab_gm (tb_in3 (List.mem_of_getElem? (i := 218) rfl)) rfl
set_option maxRecDepth 100000 in
theorem kw_699 : (Jvm.Cond.selects "LackFerry" ({ cls := "LackFerry", name := "hoard", desc := "(III)I" } : Jvm.MethodName) ({ cls := "LackFerry", name := "hoard", desc := "(III)I" } : Jvm.MethodName)) ∈ ab_G := ab_gm (tb_in3 (List.mem_of_getElem? (i := 219) rfl)) rfl
set_option maxRecDepth 100000 in
theorem kw_700 : (Jvm.Cond.code ({ cls := "LackFerry", name := "hoard", desc := "(III)I" } : Jvm.MethodName) prog_1_method_24_code (4 : Nat) (Option.some Jvm.ClassFile.FieldType.int)) ∈ ab_G := ab_gm (tb_in3 (List.mem_of_getElem? (i := 220) rfl)) rfl
set_option maxRecDepth 100000 in
theorem kw_701 : (Jvm.Cond.methodLink "LackFerry" (247 : Nat) ({ cls := "LackFerry", name := "act", desc := "(IIII)I" } : Jvm.MethodName)) ∈ ab_G := ab_gm (tb_in3 (List.mem_of_getElem? (i := 221) rfl)) rfl
set_option maxRecDepth 100000 in
theorem kw_703 : (Jvm.Cond.instanceMethod ({ cls := "LackFerry", name := "act", desc := "(IIII)I" } : Jvm.MethodName)) ∈ ab_G := ab_gm (tb_in3 (List.mem_of_getElem? (i := 223) rfl)) rfl
set_option maxRecDepth 100000 in
theorem kw_704 : (Jvm.Cond.code ({ cls := "LackFerry", name := "act", desc := "(IIII)I" } : Jvm.MethodName) prog_1_method_27_code (7 : Nat) (Option.some Jvm.ClassFile.FieldType.int)) ∈ ab_G := ab_gm (tb_in3 (List.mem_of_getElem? (i := 224) rfl)) rfl
set_option maxRecDepth 100000 in
theorem kw_705 : (Jvm.Cond.methodLink "LackFerry" (251 : Nat) ({ cls := "LackFerry", name := "isWithin", desc := "(II)Z" } : Jvm.MethodName)) ∈ ab_G := ab_gm (tb_in3 (List.mem_of_getElem? (i := 225) rfl)) rfl
set_option maxRecDepth 100000 in
theorem kw_706 : (Jvm.Cond.static ({ cls := "LackFerry", name := "isWithin", desc := "(II)Z" } : Jvm.MethodName)) ∈ ab_G := ab_gm (tb_in3 (List.mem_of_getElem? (i := 226) rfl)) rfl
set_option maxRecDepth 100000 in
theorem kw_707 : (Jvm.Cond.code ({ cls := "LackFerry", name := "isWithin", desc := "(II)Z" } : Jvm.MethodName) prog_1_method_11_code (2 : Nat) (Option.some Jvm.ClassFile.FieldType.boolean)) ∈ ab_G := ab_gm (tb_in3 (List.mem_of_getElem? (i := 227) rfl)) rfl
set_option maxRecDepth 100000 in
theorem kw_708 : (Jvm.Cond.methodLink "LackFerry" (254 : Nat) ({ cls := "LackFerry$Shores", name := "whyNot", desc := "(III)I" } : Jvm.MethodName)) ∈ ab_G := ab_gm (tb_in3 (List.mem_of_getElem? (i := 228) rfl)) rfl
set_option maxRecDepth 100000 in
theorem kw_709 : (Jvm.Cond.instanceMethod ({ cls := "LackFerry$Shores", name := "whyNot", desc := "(III)I" } : Jvm.MethodName)) ∈ ab_G := ab_gm (tb_in3 (List.mem_of_getElem? (i := 229) rfl)) rfl
set_option maxRecDepth 100000 in
theorem kw_710 : (Jvm.Cond.selects "LackFerry$Shores" ({ cls := "LackFerry$Shores", name := "whyNot", desc := "(III)I" } : Jvm.MethodName) ({ cls := "LackFerry$Shores", name := "whyNot", desc := "(III)I" } : Jvm.MethodName)) ∈ ab_G := ab_gm (tb_in3 (List.mem_of_getElem? (i := 230) rfl)) rfl
set_option maxRecDepth 100000 in
theorem kw_711 : (Jvm.Cond.code ({ cls := "LackFerry$Shores", name := "whyNot", desc := "(III)I" } : Jvm.MethodName) prog_8_method_17_code (4 : Nat) (Option.some Jvm.ClassFile.FieldType.int)) ∈ ab_G := ab_gm (tb_in3 (List.mem_of_getElem? (i := 231) rfl)) rfl
set_option maxRecDepth 100000 in
theorem kw_712 : (Jvm.Cond.methodLink "LackFerry" (258 : Nat) ({ cls := "LackFerry$History", name := "keep", desc := "(LLackFerry$Shores;)V" } : Jvm.MethodName)) ∈ ab_G := ab_gm (tb_in3 (List.mem_of_getElem? (i := 232) rfl)) rfl
set_option maxRecDepth 100000 in
theorem kw_713 : (Jvm.Cond.instanceMethod ({ cls := "LackFerry$History", name := "keep", desc := "(LLackFerry$Shores;)V" } : Jvm.MethodName)) ∈ ab_G := ab_gm (tb_in3 (List.mem_of_getElem? (i := 233) rfl)) rfl
set_option maxRecDepth 100000 in
theorem kw_714 : (Jvm.Cond.selects "LackFerry$History" ({ cls := "LackFerry$History", name := "keep", desc := "(LLackFerry$Shores;)V" } : Jvm.MethodName) ({ cls := "LackFerry$History", name := "keep", desc := "(LLackFerry$Shores;)V" } : Jvm.MethodName)) ∈ ab_G := ab_gm (tb_in3 (List.mem_of_getElem? (i := 234) rfl)) rfl
set_option maxRecDepth 100000 in
theorem kw_715 : (Jvm.Cond.code ({ cls := "LackFerry$History", name := "keep", desc := "(LLackFerry$Shores;)V" } : Jvm.MethodName) prog_4_method_3_code (3 : Nat) (Option.none : Option Jvm.ClassFile.FieldType)) ∈ ab_G := ab_gm (tb_in3 (List.mem_of_getElem? (i := 235) rfl)) rfl
set_option maxRecDepth 100000 in
theorem kw_716 : (Jvm.Cond.methodLink "LackFerry$History" (21 : Nat) ({ cls := "LackFerry$History", name := "dropOldest", desc := "()V" } : Jvm.MethodName)) ∈ ab_G := ab_gm (tb_in3 (List.mem_of_getElem? (i := 236) rfl)) rfl
set_option maxRecDepth 100000 in
theorem kw_718 : (Jvm.Cond.instanceMethod ({ cls := "LackFerry$History", name := "dropOldest", desc := "()V" } : Jvm.MethodName)) ∈ ab_G := ab_gm (tb_in3 (List.mem_of_getElem? (i := 238) rfl)) rfl
set_option maxRecDepth 100000 in
theorem kw_719 : (Jvm.Cond.code ({ cls := "LackFerry$History", name := "dropOldest", desc := "()V" } : Jvm.MethodName) prog_4_method_4_code (3 : Nat) (Option.none : Option Jvm.ClassFile.FieldType)) ∈ ab_G := ab_gm (tb_in3 (List.mem_of_getElem? (i := 239) rfl)) rfl
set_option maxRecDepth 100000 in
theorem kw_721 : (Jvm.Cond.methodLink "LackFerry$History" (25 : Nat) ({ cls := "LackFerry$Shores", name := "copyFrom", desc := "(LLackFerry$Shores;)V" } : Jvm.MethodName)) ∈ ab_G := ab_gm (tb_in4 (List.mem_of_getElem? (i := 1) rfl)) rfl
set_option maxRecDepth 100000 in
theorem kw_722 : (Jvm.Cond.instanceMethod ({ cls := "LackFerry$Shores", name := "copyFrom", desc := "(LLackFerry$Shores;)V" } : Jvm.MethodName)) ∈ ab_G := ab_gm (tb_in4 (List.mem_of_getElem? (i := 2) rfl)) rfl
set_option maxRecDepth 100000 in
theorem kw_723 : (Jvm.Cond.selects "LackFerry$Shores" ({ cls := "LackFerry$Shores", name := "copyFrom", desc := "(LLackFerry$Shores;)V" } : Jvm.MethodName) ({ cls := "LackFerry$Shores", name := "copyFrom", desc := "(LLackFerry$Shores;)V" } : Jvm.MethodName)) ∈ ab_G := ab_gm (tb_in4 (List.mem_of_getElem? (i := 3) rfl)) rfl
set_option maxRecDepth 100000 in
theorem kw_724 : (Jvm.Cond.code ({ cls := "LackFerry$Shores", name := "copyFrom", desc := "(LLackFerry$Shores;)V" } : Jvm.MethodName) prog_8_method_3_code (2 : Nat) (Option.none : Option Jvm.ClassFile.FieldType)) ∈ ab_G := ab_gm (tb_in4 (List.mem_of_getElem? (i := 4) rfl)) rfl
set_option maxRecDepth 100000 in
theorem kw_725 : (Jvm.Cond.methodLink "LackFerry$Shores" (52 : Nat) ({ cls := "java/lang/System", name := "arraycopy", desc := "(Ljava/lang/Object;ILjava/lang/Object;II)V" } : Jvm.MethodName)) ∈ ab_G := ab_gm (tb_in4 (List.mem_of_getElem? (i := 5) rfl)) rfl
set_option maxRecDepth 100000 in
theorem kw_726 : (Jvm.Cond.static ({ cls := "java/lang/System", name := "arraycopy", desc := "(Ljava/lang/Object;ILjava/lang/Object;II)V" } : Jvm.MethodName)) ∈ ab_G := ab_gm (tb_in4 (List.mem_of_getElem? (i := 6) rfl)) rfl
set_option maxRecDepth 100000 in
theorem kw_727 : (Jvm.Cond.native ({ cls := "java/lang/System", name := "arraycopy", desc := "(Ljava/lang/Object;ILjava/lang/Object;II)V" } : Jvm.MethodName)) ∈ ab_G := ab_gm (tb_in4 (List.mem_of_getElem? (i := 7) rfl)) rfl
set_option maxRecDepth 100000 in
theorem kw_728 : (Jvm.Cond.methodLink "LackFerry" (262 : Nat) ({ cls := "LackFerry$Shores", name := "perform", desc := "(III)V" } : Jvm.MethodName)) ∈ ab_G := ab_gm (tb_in4 (List.mem_of_getElem? (i := 8) rfl)) rfl
set_option maxRecDepth 100000 in
theorem kw_729 : (Jvm.Cond.instanceMethod ({ cls := "LackFerry$Shores", name := "perform", desc := "(III)V" } : Jvm.MethodName)) ∈ ab_G := ab_gm (tb_in4 (List.mem_of_getElem? (i := 9) rfl)) rfl
set_option maxRecDepth 100000 in
theorem kw_730 : (Jvm.Cond.selects "LackFerry$Shores" ({ cls := "LackFerry$Shores", name := "perform", desc := "(III)V" } : Jvm.MethodName) ({ cls := "LackFerry$Shores", name := "perform", desc := "(III)V" } : Jvm.MethodName)) ∈ ab_G := ab_gm (tb_in4 (List.mem_of_getElem? (i := 10) rfl)) rfl
set_option maxRecDepth 100000 in
theorem kw_731 : (Jvm.Cond.code ({ cls := "LackFerry$Shores", name := "perform", desc := "(III)V" } : Jvm.MethodName) prog_8_method_18_code (4 : Nat) (Option.none : Option Jvm.ClassFile.FieldType)) ∈ ab_G := ab_gm (tb_in4 (List.mem_of_getElem? (i := 11) rfl)) rfl
set_option maxRecDepth 100000 in
theorem kw_732 : (Jvm.Cond.methodLink "LackFerryLaw" (66 : Nat) ({ cls := "LackFerry", name := "bare", desc := "(III)I" } : Jvm.MethodName)) ∈ ab_G := ab_gm (tb_in4 (List.mem_of_getElem? (i := 12) rfl)) rfl
set_option maxRecDepth 100000 in
theorem kw_733 : (Jvm.Cond.instanceMethod ({ cls := "LackFerry", name := "bare", desc := "(III)I" } : Jvm.MethodName)) ∈ ab_G := ab_gm (tb_in4 (List.mem_of_getElem? (i := 13) rfl)) rfl
set_option maxRecDepth 100000 in
theorem kw_734 : (Jvm.Cond.selects "LackFerry" ({ cls := "LackFerry", name := "bare", desc := "(III)I" } : Jvm.MethodName) ({ cls := "LackFerry", name := "bare", desc := "(III)I" } : Jvm.MethodName)) ∈ ab_G := ab_gm (tb_in4 (List.mem_of_getElem? (i := 14) rfl)) rfl
set_option maxRecDepth 100000 in
theorem kw_735 : (Jvm.Cond.code ({ cls := "LackFerry", name := "bare", desc := "(III)I" } : Jvm.MethodName) prog_1_method_25_code (4 : Nat) (Option.some Jvm.ClassFile.FieldType.int)) ∈ ab_G := ab_gm (tb_in4 (List.mem_of_getElem? (i := 15) rfl)) rfl
set_option maxRecDepth 100000 in
theorem kw_736 : (Jvm.Cond.methodLink "LackFerryLaw" (70 : Nat) ({ cls := "LackFerry", name := "waste", desc := "(III)I" } : Jvm.MethodName)) ∈ ab_G := ab_gm (tb_in4 (List.mem_of_getElem? (i := 16) rfl)) rfl
set_option maxRecDepth 100000 in
theorem kw_737 : (Jvm.Cond.instanceMethod ({ cls := "LackFerry", name := "waste", desc := "(III)I" } : Jvm.MethodName)) ∈ ab_G := ab_gm (tb_in4 (List.mem_of_getElem? (i := 17) rfl)) rfl
set_option maxRecDepth 100000 in
theorem kw_738 : (Jvm.Cond.selects "LackFerry" ({ cls := "LackFerry", name := "waste", desc := "(III)I" } : Jvm.MethodName) ({ cls := "LackFerry", name := "waste", desc := "(III)I" } : Jvm.MethodName)) ∈ ab_G := ab_gm (tb_in4 (List.mem_of_getElem? (i := 18) rfl)) rfl
set_option maxRecDepth 100000 in
theorem kw_739 : (Jvm.Cond.code ({ cls := "LackFerry", name := "waste", desc := "(III)I" } : Jvm.MethodName) prog_1_method_26_code (4 : Nat) (Option.some Jvm.ClassFile.FieldType.int)) ∈ ab_G := ab_gm (tb_in4 (List.mem_of_getElem? (i := 19) rfl)) rfl
set_option maxRecDepth 100000 in
theorem kw_740 : (Jvm.Cond.methodLink "LackFerryLaw" (74 : Nat) ({ cls := "LackFerry", name := "die", desc := "(I)I" } : Jvm.MethodName)) ∈ ab_G := ab_gm (tb_in4 (List.mem_of_getElem? (i := 20) rfl)) rfl
set_option maxRecDepth 100000 in
theorem kw_741 : (Jvm.Cond.instanceMethod ({ cls := "LackFerry", name := "die", desc := "(I)I" } : Jvm.MethodName)) ∈ ab_G := ab_gm (tb_in4 (List.mem_of_getElem? (i := 21) rfl)) rfl
set_option maxRecDepth 100000 in
theorem kw_742 : (Jvm.Cond.selects "LackFerry" ({ cls := "LackFerry", name := "die", desc := "(I)I" } : Jvm.MethodName) ({ cls := "LackFerry", name := "die", desc := "(I)I" } : Jvm.MethodName)) ∈ ab_G := ab_gm (tb_in4 (List.mem_of_getElem? (i := 22) rfl)) rfl
set_option maxRecDepth 100000 in
theorem kw_743 : (Jvm.Cond.code ({ cls := "LackFerry", name := "die", desc := "(I)I" } : Jvm.MethodName) prog_1_method_28_code (3 : Nat) (Option.some Jvm.ClassFile.FieldType.int)) ∈ ab_G := ab_gm (tb_in4 (List.mem_of_getElem? (i := 23) rfl)) rfl
set_option maxRecDepth 100000 in
theorem kw_744 : (Jvm.Cond.methodLink "LackFerryLaw" (78 : Nat) ({ cls := "LackFerry", name := "days", desc := "(I)I" } : Jvm.MethodName)) ∈ ab_G := ab_gm (tb_in4 (List.mem_of_getElem? (i := 24) rfl)) rfl
set_option maxRecDepth 100000 in
theorem kw_745 : (Jvm.Cond.instanceMethod ({ cls := "LackFerry", name := "days", desc := "(I)I" } : Jvm.MethodName)) ∈ ab_G := ab_gm (tb_in4 (List.mem_of_getElem? (i := 25) rfl)) rfl
set_option maxRecDepth 100000 in
theorem kw_746 : (Jvm.Cond.selects "LackFerry" ({ cls := "LackFerry", name := "days", desc := "(I)I" } : Jvm.MethodName) ({ cls := "LackFerry", name := "days", desc := "(I)I" } : Jvm.MethodName)) ∈ ab_G := ab_gm (tb_in4 (List.mem_of_getElem? (i := 26) rfl)) rfl
set_option maxRecDepth 100000 in
theorem kw_747 : (Jvm.Cond.code ({ cls := "LackFerry", name := "days", desc := "(I)I" } : Jvm.MethodName) prog_1_method_29_code (2 : Nat) (Option.some Jvm.ClassFile.FieldType.int)) ∈ ab_G := ab_gm (tb_in4 (List.mem_of_getElem? (i := 27) rfl)) rfl
set_option maxRecDepth 100000 in
theorem kw_748 : (Jvm.Cond.methodLink "LackFerry" (266 : Nat) ({ cls := "LackFerry$Ferry", name := "passDays", desc := "(LLackFerry$Strait;LLackFerry$Shores;I)I" } : Jvm.MethodName)) ∈ ab_G := ab_gm (tb_in4 (List.mem_of_getElem? (i := 28) rfl)) rfl
set_option maxRecDepth 100000 in
theorem kw_749 : (Jvm.Cond.instanceMethod ({ cls := "LackFerry$Ferry", name := "passDays", desc := "(LLackFerry$Strait;LLackFerry$Shores;I)I" } : Jvm.MethodName)) ∈ ab_G := ab_gm (tb_in4 (List.mem_of_getElem? (i := 29) rfl)) rfl
set_option maxRecDepth 100000 in
theorem kw_750 : (Jvm.Cond.selects "LackFerry$Ferry" ({ cls := "LackFerry$Ferry", name := "passDays", desc := "(LLackFerry$Strait;LLackFerry$Shores;I)I" } : Jvm.MethodName) ({ cls := "LackFerry$Ferry", name := "passDays", desc := "(LLackFerry$Strait;LLackFerry$Shores;I)I" } : Jvm.MethodName)) ∈ ab_G := ab_gm (tb_in4 (List.mem_of_getElem? (i := 30) rfl)) rfl
set_option maxRecDepth 100000 in
theorem kw_751 : (Jvm.Cond.code ({ cls := "LackFerry$Ferry", name := "passDays", desc := "(LLackFerry$Strait;LLackFerry$Shores;I)I" } : Jvm.MethodName) prog_3_method_4_code (6 : Nat) (Option.some Jvm.ClassFile.FieldType.int)) ∈ ab_G := ab_gm (tb_in4 (List.mem_of_getElem? (i := 31) rfl)) rfl
set_option maxRecDepth 100000 in
theorem kw_752 : (Jvm.Cond.methodLink "LackFerry$Ferry" (75 : Nat) ({ cls := "LackFerry$Ferry", name := "plan", desc := "(LLackFerry$Strait;LLackFerry$Shores;)V" } : Jvm.MethodName)) ∈ ab_G := ab_gm (tb_in4 (List.mem_of_getElem? (i := 32) rfl)) rfl
set_option maxRecDepth 100000 in
theorem kw_753 : (Jvm.Cond.instanceMethod ({ cls := "LackFerry$Ferry", name := "plan", desc := "(LLackFerry$Strait;LLackFerry$Shores;)V" } : Jvm.MethodName)) ∈ ab_G := ab_gm (tb_in4 (List.mem_of_getElem? (i := 33) rfl)) rfl
set_option maxRecDepth 100000 in
theorem kw_754 : (Jvm.Cond.selects "LackFerry$Ferry" ({ cls := "LackFerry$Ferry", name := "plan", desc := "(LLackFerry$Strait;LLackFerry$Shores;)V" } : Jvm.MethodName) ({ cls := "LackFerry$Ferry", name := "plan", desc := "(LLackFerry$Strait;LLackFerry$Shores;)V" } : Jvm.MethodName)) ∈ ab_G := ab_gm (tb_in4 (List.mem_of_getElem? (i := 34) rfl)) rfl
set_option maxRecDepth 100000 in
theorem kw_755 : (Jvm.Cond.code ({ cls := "LackFerry$Ferry", name := "plan", desc := "(LLackFerry$Strait;LLackFerry$Shores;)V" } : Jvm.MethodName) prog_3_method_3_code (8 : Nat) (Option.none : Option Jvm.ClassFile.FieldType)) ∈ ab_G := ab_gm (tb_in4 (List.mem_of_getElem? (i := 35) rfl)) rfl
set_option maxRecDepth 100000 in
theorem kw_756 : (Jvm.Cond.methodLink "LackFerry$Ferry" (27 : Nat) ({ cls := "LackFerry$Shores", name := "ferryShore", desc := "()I" } : Jvm.MethodName)) ∈ ab_G := ab_gm (tb_in4 (List.mem_of_getElem? (i := 36) rfl)) rfl
set_option maxRecDepth 100000 in
theorem kw_757 : (Jvm.Cond.methodLink "LackFerry$Ferry" (48 : Nat) ({ cls := "LackFerry$Shores", name := "allMissed", desc := "(LLackFerry$Strait;)I" } : Jvm.MethodName)) ∈ ab_G := ab_gm (tb_in4 (List.mem_of_getElem? (i := 37) rfl)) rfl
set_option maxRecDepth 100000 in
theorem kw_758 : (Jvm.Cond.instanceMethod ({ cls := "LackFerry$Shores", name := "allMissed", desc := "(LLackFerry$Strait;)I" } : Jvm.MethodName)) ∈ ab_G := ab_gm (tb_in4 (List.mem_of_getElem? (i := 38) rfl)) rfl
set_option maxRecDepth 100000 in
theorem kw_759 : (Jvm.Cond.selects "LackFerry$Shores" ({ cls := "LackFerry$Shores", name := "allMissed", desc := "(LLackFerry$Strait;)I" } : Jvm.MethodName) ({ cls := "LackFerry$Shores", name := "allMissed", desc := "(LLackFerry$Strait;)I" } : Jvm.MethodName)) ∈ ab_G := ab_gm (tb_in4 (List.mem_of_getElem? (i := 39) rfl)) rfl
set_option maxRecDepth 100000 in
theorem kw_760 : (Jvm.Cond.code ({ cls := "LackFerry$Shores", name := "allMissed", desc := "(LLackFerry$Strait;)I" } : Jvm.MethodName) prog_8_method_13_code (4 : Nat) (Option.some Jvm.ClassFile.FieldType.int)) ∈ ab_G := ab_gm (tb_in4 (List.mem_of_getElem? (i := 40) rfl)) rfl
set_option maxRecDepth 100000 in
theorem kw_762 : (Jvm.Cond.methodLink "LackFerry$Ferry" (64 : Nat) ({ cls := "LackFerry$Shores", name := "lackAt", desc := "(LLackFerry$Strait;I)I" } : Jvm.MethodName)) ∈ ab_G := ab_gm (tb_in4 (List.mem_of_getElem? (i := 42) rfl)) rfl
set_option maxRecDepth 100000 in
theorem kw_763 : (Jvm.Cond.methodLink "LackFerry$Ferry" (71 : Nat) ({ cls := "LackFerry$Ferry", name := "amountMoved", desc := "(III)I" } : Jvm.MethodName)) ∈ ab_G := ab_gm (tb_in4 (List.mem_of_getElem? (i := 43) rfl)) rfl
set_option maxRecDepth 100000 in
theorem kw_764 : (Jvm.Cond.static ({ cls := "LackFerry$Ferry", name := "amountMoved", desc := "(III)I" } : Jvm.MethodName)) ∈ ab_G := ab_gm (tb_in4 (List.mem_of_getElem? (i := 44) rfl)) rfl
set_option maxRecDepth 100000 in
theorem kw_765 : (Jvm.Cond.code ({ cls := "LackFerry$Ferry", name := "amountMoved", desc := "(III)I" } : Jvm.MethodName) prog_3_method_2_code (3 : Nat) (Option.some Jvm.ClassFile.FieldType.int)) ∈ ab_G := ab_gm (tb_in4 (List.mem_of_getElem? (i := 45) rfl)) rfl
set_option maxRecDepth 100000 in
theorem kw_766 : (Jvm.Cond.methodLink "LackFerry$Ferry" (18 : Nat) ({ cls := "java/lang/Math", name := "min", desc := "(II)I" } : Jvm.MethodName)) ∈ ab_G := ab_gm (tb_in4 (List.mem_of_getElem? (i := 46) rfl)) rfl
set_option maxRecDepth 100000 in
theorem kw_767 : (Jvm.Cond.methodLink "LackFerry$Ferry" (24 : Nat) ({ cls := "java/lang/Math", name := "max", desc := "(II)I" } : Jvm.MethodName)) ∈ ab_G := ab_gm (tb_in4 (List.mem_of_getElem? (i := 47) rfl)) rfl
set_option maxRecDepth 100000 in
theorem kw_768 : (Jvm.Cond.methodLink "LackFerry$Ferry" (79 : Nat) ({ cls := "LackFerry$Ferry", name := "carry", desc := "(LLackFerry$Strait;LLackFerry$Shores;)V" } : Jvm.MethodName)) ∈ ab_G := ab_gm (tb_in4 (List.mem_of_getElem? (i := 48) rfl)) rfl
set_option maxRecDepth 100000 in
theorem kw_770 : (Jvm.Cond.instanceMethod ({ cls := "LackFerry$Ferry", name := "carry", desc := "(LLackFerry$Strait;LLackFerry$Shores;)V" } : Jvm.MethodName)) ∈ ab_G := ab_gm (tb_in4 (List.mem_of_getElem? (i := 50) rfl)) rfl
set_option maxRecDepth 100000 in
theorem kw_771 : (Jvm.Cond.code ({ cls := "LackFerry$Ferry", name := "carry", desc := "(LLackFerry$Strait;LLackFerry$Shores;)V" } : Jvm.MethodName) prog_3_method_5_code (5 : Nat) (Option.none : Option Jvm.ClassFile.FieldType)) ∈ ab_G := ab_gm (tb_in4 (List.mem_of_getElem? (i := 51) rfl)) rfl
set_option maxRecDepth 100000 in
theorem kw_772 : (Jvm.Cond.methodLink "LackFerry$Ferry" (82 : Nat) ({ cls := "LackFerry$Shores", name := "makeAndEat", desc := "(LLackFerry$Strait;)V" } : Jvm.MethodName)) ∈ ab_G := ab_gm (tb_in4 (List.mem_of_getElem? (i := 52) rfl)) rfl
set_option maxRecDepth 100000 in
theorem kw_773 : (Jvm.Cond.instanceMethod ({ cls := "LackFerry$Shores", name := "makeAndEat", desc := "(LLackFerry$Strait;)V" } : Jvm.MethodName)) ∈ ab_G := ab_gm (tb_in4 (List.mem_of_getElem? (i := 53) rfl)) rfl
set_option maxRecDepth 100000 in
theorem kw_774 : (Jvm.Cond.selects "LackFerry$Shores" ({ cls := "LackFerry$Shores", name := "makeAndEat", desc := "(LLackFerry$Strait;)V" } : Jvm.MethodName) ({ cls := "LackFerry$Shores", name := "makeAndEat", desc := "(LLackFerry$Strait;)V" } : Jvm.MethodName)) ∈ ab_G := ab_gm (tb_in4 (List.mem_of_getElem? (i := 54) rfl)) rfl
set_option maxRecDepth 100000 in
theorem kw_775 : (Jvm.Cond.code ({ cls := "LackFerry$Shores", name := "makeAndEat", desc := "(LLackFerry$Strait;)V" } : Jvm.MethodName) prog_8_method_20_code (4 : Nat) (Option.none : Option Jvm.ClassFile.FieldType)) ∈ ab_G := ab_gm (tb_in4 (List.mem_of_getElem? (i := 55) rfl)) rfl
set_option maxRecDepth 100000 in
theorem kw_776 : (Jvm.Cond.methodLink "LackFerry$Shores" (100 : Nat) ({ cls := "LackFerry$Strait", name := "leftAfter", desc := "(II)I" } : Jvm.MethodName)) ∈ ab_G := ab_gm (tb_in4 (List.mem_of_getElem? (i := 56) rfl)) rfl
set_option maxRecDepth 100000 in
theorem kw_777 : (Jvm.Cond.instanceMethod ({ cls := "LackFerry$Strait", name := "leftAfter", desc := "(II)I" } : Jvm.MethodName)) ∈ ab_G := ab_gm (tb_in4 (List.mem_of_getElem? (i := 57) rfl)) rfl
set_option maxRecDepth 100000 in
theorem kw_778 : (Jvm.Cond.selects "LackFerry$Strait" ({ cls := "LackFerry$Strait", name := "leftAfter", desc := "(II)I" } : Jvm.MethodName) ({ cls := "LackFerry$Strait", name := "leftAfter", desc := "(II)I" } : Jvm.MethodName)) ∈ ab_G := ab_gm (tb_in4 (List.mem_of_getElem? (i := 58) rfl)) rfl
set_option maxRecDepth 100000 in
theorem kw_779 : (Jvm.Cond.code ({ cls := "LackFerry$Strait", name := "leftAfter", desc := "(II)I" } : Jvm.MethodName) prog_9_method_3_code (4 : Nat) (Option.some Jvm.ClassFile.FieldType.int)) ∈ ab_G := ab_gm (tb_in4 (List.mem_of_getElem? (i := 59) rfl)) rfl
set_option maxRecDepth 100000 in
theorem kw_780 : (Jvm.Cond.methodLink "LackFerry$Strait" (38 : Nat) ({ cls := "java/lang/Math", name := "min", desc := "(II)I" } : Jvm.MethodName)) ∈ ab_G := ab_gm (tb_in4 (List.mem_of_getElem? (i := 60) rfl)) rfl
set_option maxRecDepth 100000 in
theorem kw_781 : (Jvm.Cond.methodLink "LackFerry$Ferry" (86 : Nat) ({ cls := "LackFerry$Shores", name := "countApart", desc := "(LLackFerry$Strait;)V" } : Jvm.MethodName)) ∈ ab_G := ab_gm (tb_in4 (List.mem_of_getElem? (i := 61) rfl)) rfl
set_option maxRecDepth 100000 in
theorem kw_782 : (Jvm.Cond.instanceMethod ({ cls := "LackFerry$Shores", name := "countApart", desc := "(LLackFerry$Strait;)V" } : Jvm.MethodName)) ∈ ab_G := ab_gm (tb_in4 (List.mem_of_getElem? (i := 62) rfl)) rfl
set_option maxRecDepth 100000 in
theorem kw_783 : (Jvm.Cond.selects "LackFerry$Shores" ({ cls := "LackFerry$Shores", name := "countApart", desc := "(LLackFerry$Strait;)V" } : Jvm.MethodName) ({ cls := "LackFerry$Shores", name := "countApart", desc := "(LLackFerry$Strait;)V" } : Jvm.MethodName)) ∈ ab_G := ab_gm (tb_in4 (List.mem_of_getElem? (i := 63) rfl)) rfl
set_option maxRecDepth 100000 in
theorem kw_784 : (Jvm.Cond.code ({ cls := "LackFerry$Shores", name := "countApart", desc := "(LLackFerry$Strait;)V" } : Jvm.MethodName) prog_8_method_21_code (5 : Nat) (Option.none : Option Jvm.ClassFile.FieldType)) ∈ ab_G := ab_gm (tb_in4 (List.mem_of_getElem? (i := 64) rfl)) rfl
set_option maxRecDepth 100000 in
theorem kw_785 : (Jvm.Cond.methodLink "LackFerryLaw" (82 : Nat) ({ cls := "LackFerry", name := "undo", desc := "()I" } : Jvm.MethodName)) ∈ ab_G := ab_gm (tb_in4 (List.mem_of_getElem? (i := 65) rfl)) rfl
set_option maxRecDepth 100000 in
theorem kw_786 : (Jvm.Cond.instanceMethod ({ cls := "LackFerry", name := "undo", desc := "()I" } : Jvm.MethodName)) ∈ ab_G := ab_gm (tb_in4 (List.mem_of_getElem? (i := 66) rfl)) rfl
set_option maxRecDepth 100000 in
theorem kw_787 : (Jvm.Cond.selects "LackFerry" ({ cls := "LackFerry", name := "undo", desc := "()I" } : Jvm.MethodName) ({ cls := "LackFerry", name := "undo", desc := "()I" } : Jvm.MethodName)) ∈ ab_G := ab_gm (tb_in4 (List.mem_of_getElem? (i := 67) rfl)) rfl
set_option maxRecDepth 100000 in
theorem kw_788 : (Jvm.Cond.code ({ cls := "LackFerry", name := "undo", desc := "()I" } : Jvm.MethodName) prog_1_method_30_code (1 : Nat) (Option.some Jvm.ClassFile.FieldType.int)) ∈ ab_G := ab_gm (tb_in4 (List.mem_of_getElem? (i := 68) rfl)) rfl
set_option maxRecDepth 100000 in
theorem kw_789 : (Jvm.Cond.methodLink "LackFerry" (270 : Nat) ({ cls := "LackFerry$History", name := "takeBack", desc := "(LLackFerry$Shores;)I" } : Jvm.MethodName)) ∈ ab_G := ab_gm (tb_in4 (List.mem_of_getElem? (i := 69) rfl)) rfl
set_option maxRecDepth 100000 in
theorem kw_790 : (Jvm.Cond.instanceMethod ({ cls := "LackFerry$History", name := "takeBack", desc := "(LLackFerry$Shores;)I" } : Jvm.MethodName)) ∈ ab_G := ab_gm (tb_in4 (List.mem_of_getElem? (i := 70) rfl)) rfl
set_option maxRecDepth 100000 in
theorem kw_791 : (Jvm.Cond.selects "LackFerry$History" ({ cls := "LackFerry$History", name := "takeBack", desc := "(LLackFerry$Shores;)I" } : Jvm.MethodName) ({ cls := "LackFerry$History", name := "takeBack", desc := "(LLackFerry$Shores;)I" } : Jvm.MethodName)) ∈ ab_G := ab_gm (tb_in4 (List.mem_of_getElem? (i := 71) rfl)) rfl
set_option maxRecDepth 100000 in
theorem kw_792 : (Jvm.Cond.code ({ cls := "LackFerry$History", name := "takeBack", desc := "(LLackFerry$Shores;)I" } : Jvm.MethodName) prog_4_method_5_code (3 : Nat) (Option.some Jvm.ClassFile.FieldType.int)) ∈ ab_G := ab_gm (tb_in4 (List.mem_of_getElem? (i := 72) rfl)) rfl
set_option maxRecDepth 100000 in
theorem kw_793 : (Jvm.Cond.methodLink "LackFerryLaw" (94 : Nat) ({ cls := "LackFerry", name := "going", desc := "()I" } : Jvm.MethodName)) ∈ ab_G := ab_gm (tb_in4 (List.mem_of_getElem? (i := 73) rfl)) rfl
set_option maxRecDepth 100000 in
theorem kw_794 : (Jvm.Cond.instanceMethod ({ cls := "LackFerry", name := "going", desc := "()I" } : Jvm.MethodName)) ∈ ab_G := ab_gm (tb_in4 (List.mem_of_getElem? (i := 74) rfl)) rfl
set_option maxRecDepth 100000 in
theorem kw_795 : (Jvm.Cond.selects "LackFerry" ({ cls := "LackFerry", name := "going", desc := "()I" } : Jvm.MethodName) ({ cls := "LackFerry", name := "going", desc := "()I" } : Jvm.MethodName)) ∈ ab_G := ab_gm (tb_in4 (List.mem_of_getElem? (i := 75) rfl)) rfl
set_option maxRecDepth 100000 in
theorem kw_796 : (Jvm.Cond.code ({ cls := "LackFerry", name := "going", desc := "()I" } : Jvm.MethodName) prog_1_method_31_code (1 : Nat) (Option.some Jvm.ClassFile.FieldType.int)) ∈ ab_G := ab_gm (tb_in4 (List.mem_of_getElem? (i := 76) rfl)) rfl
set_option maxRecDepth 100000 in
theorem kw_797 : (Jvm.Cond.methodLink "LackFerry" (274 : Nat) ({ cls := "LackFerry$Ferry", name := "plan", desc := "(LLackFerry$Strait;LLackFerry$Shores;)V" } : Jvm.MethodName)) ∈ ab_G := ab_gm (tb_in4 (List.mem_of_getElem? (i := 77) rfl)) rfl
set_option maxRecDepth 100000 in
theorem kw_798 : (Jvm.Cond.methodLink "LackFerryLaw" (98 : Nat) ({ cls := "LackFerry", name := "goes", desc := "(I)I" } : Jvm.MethodName)) ∈ ab_G := ab_gm (tb_in4 (List.mem_of_getElem? (i := 78) rfl)) rfl
set_option maxRecDepth 100000 in
theorem kw_799 : (Jvm.Cond.instanceMethod ({ cls := "LackFerry", name := "goes", desc := "(I)I" } : Jvm.MethodName)) ∈ ab_G := ab_gm (tb_in4 (List.mem_of_getElem? (i := 79) rfl)) rfl
set_option maxRecDepth 100000 in
theorem kw_800 : (Jvm.Cond.selects "LackFerry" ({ cls := "LackFerry", name := "goes", desc := "(I)I" } : Jvm.MethodName) ({ cls := "LackFerry", name := "goes", desc := "(I)I" } : Jvm.MethodName)) ∈ ab_G := ab_gm (tb_in4 (List.mem_of_getElem? (i := 80) rfl)) rfl
set_option maxRecDepth 100000 in
theorem kw_801 : (Jvm.Cond.code ({ cls := "LackFerry", name := "goes", desc := "(I)I" } : Jvm.MethodName) prog_1_method_32_code (2 : Nat) (Option.some Jvm.ClassFile.FieldType.int)) ∈ ab_G := ab_gm (tb_in4 (List.mem_of_getElem? (i := 81) rfl)) rfl
set_option maxRecDepth 100000 in
theorem kw_802 : (Jvm.Cond.methodLink "LackFerryLaw" (102 : Nat) ({ cls := "LackFerry", name := "crosses", desc := "(I)I" } : Jvm.MethodName)) ∈ ab_G := ab_gm (tb_in4 (List.mem_of_getElem? (i := 82) rfl)) rfl
set_option maxRecDepth 100000 in
theorem kw_803 : (Jvm.Cond.instanceMethod ({ cls := "LackFerry", name := "crosses", desc := "(I)I" } : Jvm.MethodName)) ∈ ab_G := ab_gm (tb_in4 (List.mem_of_getElem? (i := 83) rfl)) rfl
set_option maxRecDepth 100000 in
theorem kw_804 : (Jvm.Cond.selects "LackFerry" ({ cls := "LackFerry", name := "crosses", desc := "(I)I" } : Jvm.MethodName) ({ cls := "LackFerry", name := "crosses", desc := "(I)I" } : Jvm.MethodName)) ∈ ab_G := ab_gm (tb_in4 (List.mem_of_getElem? (i := 84) rfl)) rfl
set_option maxRecDepth 100000 in
theorem kw_805 : (Jvm.Cond.code ({ cls := "LackFerry", name := "crosses", desc := "(I)I" } : Jvm.MethodName) prog_1_method_33_code (4 : Nat) (Option.some Jvm.ClassFile.FieldType.int)) ∈ ab_G := ab_gm (tb_in4 (List.mem_of_getElem? (i := 85) rfl)) rfl
set_option maxRecDepth 100000 in
theorem kw_806 : (Jvm.Cond.methodLink "LackFerry" (284 : Nat) ({ cls := "LackFerry$Shores", name := "copyFrom", desc := "(LLackFerry$Shores;)V" } : Jvm.MethodName)) ∈ ab_G := ab_gm (tb_in4 (List.mem_of_getElem? (i := 86) rfl)) rfl
set_option maxRecDepth 100000 in
theorem kw_807 : (Jvm.Cond.methodLink "LackFerryLaw" (106 : Nat) ({ cls := "LackFerry", name := "comes", desc := "(II)I" } : Jvm.MethodName)) ∈ ab_G := ab_gm (tb_in4 (List.mem_of_getElem? (i := 87) rfl)) rfl
set_option maxRecDepth 100000 in
theorem kw_808 : (Jvm.Cond.instanceMethod ({ cls := "LackFerry", name := "comes", desc := "(II)I" } : Jvm.MethodName)) ∈ ab_G := ab_gm (tb_in4 (List.mem_of_getElem? (i := 88) rfl)) rfl
set_option maxRecDepth 100000 in
theorem kw_809 : (Jvm.Cond.selects "LackFerry" ({ cls := "LackFerry", name := "comes", desc := "(II)I" } : Jvm.MethodName) ({ cls := "LackFerry", name := "comes", desc := "(II)I" } : Jvm.MethodName)) ∈ ab_G := ab_gm (tb_in4 (List.mem_of_getElem? (i := 89) rfl)) rfl
set_option maxRecDepth 100000 in
theorem kw_810 : (Jvm.Cond.code ({ cls := "LackFerry", name := "comes", desc := "(II)I" } : Jvm.MethodName) prog_1_method_34_code (6 : Nat) (Option.some Jvm.ClassFile.FieldType.int)) ∈ ab_G := ab_gm (tb_in4 (List.mem_of_getElem? (i := 90) rfl)) rfl
set_option maxRecDepth 100000 in
theorem kw_811 : (Jvm.Cond.methodLink "LackFerryLaw" (110 : Nat) ({ cls := "LackFerry", name := "without", desc := "(IIII)I" } : Jvm.MethodName)) ∈ ab_G := ab_gm (tb_in4 (List.mem_of_getElem? (i := 91) rfl)) rfl
set_option maxRecDepth 100000 in
theorem kw_812 : (Jvm.Cond.instanceMethod ({ cls := "LackFerry", name := "without", desc := "(IIII)I" } : Jvm.MethodName)) ∈ ab_G := ab_gm (tb_in4 (List.mem_of_getElem? (i := 92) rfl)) rfl
set_option maxRecDepth 100000 in
theorem kw_813 : (Jvm.Cond.selects "LackFerry" ({ cls := "LackFerry", name := "without", desc := "(IIII)I" } : Jvm.MethodName) ({ cls := "LackFerry", name := "without", desc := "(IIII)I" } : Jvm.MethodName)) ∈ ab_G := ab_gm (tb_in4 (List.mem_of_getElem? (i := 93) rfl)) rfl
set_option maxRecDepth 100000 in
theorem kw_814 : (Jvm.Cond.code ({ cls := "LackFerry", name := "without", desc := "(IIII)I" } : Jvm.MethodName) prog_1_method_35_code (8 : Nat) (Option.some Jvm.ClassFile.FieldType.int)) ∈ ab_G := ab_gm (tb_in4 (List.mem_of_getElem? (i := 94) rfl)) rfl
set_option maxRecDepth 100000 in
theorem kw_815 : (Jvm.Cond.methodLink "LackFerry" (287 : Nat) ({ cls := "LackFerry", name := "foreseeRoom", desc := "(II)I" } : Jvm.MethodName)) ∈ ab_G := ab_gm (tb_in4 (List.mem_of_getElem? (i := 95) rfl)) rfl
set_option maxRecDepth 100000 in
theorem kw_817 : (Jvm.Cond.instanceMethod ({ cls := "LackFerry", name := "foreseeRoom", desc := "(II)I" } : Jvm.MethodName)) ∈ ab_G := ab_gm (tb_in4 (List.mem_of_getElem? (i := 97) rfl)) rfl
set_option maxRecDepth 100000 in
theorem kw_818 : (Jvm.Cond.code ({ cls := "LackFerry", name := "foreseeRoom", desc := "(II)I" } : Jvm.MethodName) prog_1_method_36_code (5 : Nat) (Option.some Jvm.ClassFile.FieldType.int)) ∈ ab_G := ab_gm (tb_in4 (List.mem_of_getElem? (i := 98) rfl)) rfl
set_option maxRecDepth 100000 in
theorem kw_819 : (Jvm.Cond.methodLink "LackFerry" (290 : Nat) ({ cls := "LackFerry", name := "roomTowards", desc := "(II)I" } : Jvm.MethodName)) ∈ ab_G := ab_gm (tb_in4 (List.mem_of_getElem? (i := 99) rfl)) rfl
set_option maxRecDepth 100000 in
theorem kw_821 : (Jvm.Cond.instanceMethod ({ cls := "LackFerry", name := "roomTowards", desc := "(II)I" } : Jvm.MethodName)) ∈ ab_G := ab_gm (tb_in4 (List.mem_of_getElem? (i := 101) rfl)) rfl
set_option maxRecDepth 100000 in
theorem kw_822 : (Jvm.Cond.code ({ cls := "LackFerry", name := "roomTowards", desc := "(II)I" } : Jvm.MethodName) prog_1_method_37_code (5 : Nat) (Option.some Jvm.ClassFile.FieldType.int)) ∈ ab_G := ab_gm (tb_in4 (List.mem_of_getElem? (i := 102) rfl)) rfl
set_option maxRecDepth 100000 in
theorem kw_823 : (Jvm.Cond.methodLink "LackFerry" (293 : Nat) ({ cls := "LackFerry", name := "wouldCome", desc := "(IIII)I" } : Jvm.MethodName)) ∈ ab_G := ab_gm (tb_in4 (List.mem_of_getElem? (i := 103) rfl)) rfl
set_option maxRecDepth 100000 in
theorem kw_825 : (Jvm.Cond.instanceMethod ({ cls := "LackFerry", name := "wouldCome", desc := "(IIII)I" } : Jvm.MethodName)) ∈ ab_G := ab_gm (tb_in4 (List.mem_of_getElem? (i := 105) rfl)) rfl
set_option maxRecDepth 100000 in
theorem kw_826 : (Jvm.Cond.code ({ cls := "LackFerry", name := "wouldCome", desc := "(IIII)I" } : Jvm.MethodName) prog_1_method_38_code (14 : Nat) (Option.some Jvm.ClassFile.FieldType.int)) ∈ ab_G := ab_gm (tb_in4 (List.mem_of_getElem? (i := 106) rfl)) rfl
set_option maxRecDepth 100000 in
theorem kw_827 : (Jvm.Cond.methodLink "LackFerry" (299 : Nat) ({ cls := "LackFerry$Ferry", name := "amountMoved", desc := "(III)I" } : Jvm.MethodName)) ∈ ab_G := ab_gm (tb_in4 (List.mem_of_getElem? (i := 107) rfl)) rfl
set_option maxRecDepth 100000 in
theorem kw_828 : (Jvm.Cond.methodLink "LackFerry" (302 : Nat) ({ cls := "LackFerry$Strait", name := "stockAfter", desc := "(II)I" } : Jvm.MethodName)) ∈ ab_G := ab_gm (tb_in4 (List.mem_of_getElem? (i := 108) rfl)) rfl
set_option maxRecDepth 100000 in
theorem kw_829 : (Jvm.Cond.instanceMethod ({ cls := "LackFerry$Strait", name := "stockAfter", desc := "(II)I" } : Jvm.MethodName)) ∈ ab_G := ab_gm (tb_in4 (List.mem_of_getElem? (i := 109) rfl)) rfl
set_option maxRecDepth 100000 in
theorem kw_830 : (Jvm.Cond.selects "LackFerry$Strait" ({ cls := "LackFerry$Strait", name := "stockAfter", desc := "(II)I" } : Jvm.MethodName) ({ cls := "LackFerry$Strait", name := "stockAfter", desc := "(II)I" } : Jvm.MethodName)) ∈ ab_G := ab_gm (tb_in4 (List.mem_of_getElem? (i := 110) rfl)) rfl
set_option maxRecDepth 100000 in
theorem kw_831 : (Jvm.Cond.code ({ cls := "LackFerry$Strait", name := "stockAfter", desc := "(II)I" } : Jvm.MethodName) prog_9_method_4_code (3 : Nat) (Option.some Jvm.ClassFile.FieldType.int)) ∈ ab_G := ab_gm (tb_in4 (List.mem_of_getElem? (i := 111) rfl)) rfl
set_option maxRecDepth 100000 in
theorem kw_832 : (Jvm.Cond.methodLink "LackFerry$Strait" (44 : Nat) ({ cls := "LackFerry$Strait", name := "leftAfter", desc := "(II)I" } : Jvm.MethodName)) ∈ ab_G := ab_gm (tb_in4 (List.mem_of_getElem? (i := 112) rfl)) rfl
set_option maxRecDepth 100000 in
theorem kw_833 : (Jvm.Cond.methodLink "LackFerry$Strait" (47 : Nat) ({ cls := "java/lang/Math", name := "max", desc := "(II)I" } : Jvm.MethodName)) ∈ ab_G := ab_gm (tb_in4 (List.mem_of_getElem? (i := 113) rfl)) rfl
set_option maxRecDepth 100000 in
theorem kw_834 : (Jvm.Cond.methodLink "LackFerryLaw" (115 : Nat) ({ cls := "LackFerry", name := "meet", desc := "(II)I" } : Jvm.MethodName)) ∈ ab_G := ab_gm (tb_in4 (List.mem_of_getElem? (i := 114) rfl)) rfl
set_option maxRecDepth 100000 in
theorem kw_835 : (Jvm.Cond.instanceMethod ({ cls := "LackFerry", name := "meet", desc := "(II)I" } : Jvm.MethodName)) ∈ ab_G := ab_gm (tb_in4 (List.mem_of_getElem? (i := 115) rfl)) rfl
set_option maxRecDepth 100000 in
theorem kw_836 : (Jvm.Cond.selects "LackFerry" ({ cls := "LackFerry", name := "meet", desc := "(II)I" } : Jvm.MethodName) ({ cls := "LackFerry", name := "meet", desc := "(II)I" } : Jvm.MethodName)) ∈ ab_G := ab_gm (tb_in4 (List.mem_of_getElem? (i := 116) rfl)) rfl
set_option maxRecDepth 100000 in
theorem kw_837 : (Jvm.Cond.code ({ cls := "LackFerry", name := "meet", desc := "(II)I" } : Jvm.MethodName) prog_1_method_39_code (4 : Nat) (Option.some Jvm.ClassFile.FieldType.int)) ∈ ab_G := ab_gm (tb_in4 (List.mem_of_getElem? (i := 117) rfl)) rfl
set_option maxRecDepth 100000 in
theorem kw_838 : (Jvm.Cond.methodLink "LackFerryLaw" (119 : Nat) ({ cls := "LackFerry", name := "loads", desc := "(I)I" } : Jvm.MethodName)) ∈ ab_G := ab_gm (tb_in4 (List.mem_of_getElem? (i := 118) rfl)) rfl
set_option maxRecDepth 100000 in
theorem kw_839 : (Jvm.Cond.instanceMethod ({ cls := "LackFerry", name := "loads", desc := "(I)I" } : Jvm.MethodName)) ∈ ab_G := ab_gm (tb_in4 (List.mem_of_getElem? (i := 119) rfl)) rfl
set_option maxRecDepth 100000 in
theorem kw_840 : (Jvm.Cond.selects "LackFerry" ({ cls := "LackFerry", name := "loads", desc := "(I)I" } : Jvm.MethodName) ({ cls := "LackFerry", name := "loads", desc := "(I)I" } : Jvm.MethodName)) ∈ ab_G := ab_gm (tb_in4 (List.mem_of_getElem? (i := 120) rfl)) rfl
set_option maxRecDepth 100000 in
theorem kw_841 : (Jvm.Cond.code ({ cls := "LackFerry", name := "loads", desc := "(I)I" } : Jvm.MethodName) prog_1_method_40_code (2 : Nat) (Option.some Jvm.ClassFile.FieldType.int)) ∈ ab_G := ab_gm (tb_in4 (List.mem_of_getElem? (i := 121) rfl)) rfl
set_option maxRecDepth 100000 in
theorem kw_842 : (Jvm.Cond.methodLink "LackFerryLaw" (127 : Nat) ({ cls := "LackFerry", name := "settles", desc := "()I" } : Jvm.MethodName)) ∈ ab_G := ab_gm (tb_in4 (List.mem_of_getElem? (i := 122) rfl)) rfl
set_option maxRecDepth 100000 in
theorem kw_843 : (Jvm.Cond.instanceMethod ({ cls := "LackFerry", name := "settles", desc := "()I" } : Jvm.MethodName)) ∈ ab_G := ab_gm (tb_in4 (List.mem_of_getElem? (i := 123) rfl)) rfl
set_option maxRecDepth 100000 in
theorem kw_844 : (Jvm.Cond.selects "LackFerry" ({ cls := "LackFerry", name := "settles", desc := "()I" } : Jvm.MethodName) ({ cls := "LackFerry", name := "settles", desc := "()I" } : Jvm.MethodName)) ∈ ab_G := ab_gm (tb_in4 (List.mem_of_getElem? (i := 124) rfl)) rfl
set_option maxRecDepth 100000 in
theorem kw_845 : (Jvm.Cond.code ({ cls := "LackFerry", name := "settles", desc := "()I" } : Jvm.MethodName) prog_1_method_41_code (2 : Nat) (Option.some Jvm.ClassFile.FieldType.int)) ∈ ab_G := ab_gm (tb_in4 (List.mem_of_getElem? (i := 125) rfl)) rfl
set_option maxRecDepth 100000 in
theorem kw_846 : (Jvm.Cond.methodLink "LackFerry" (305 : Nat) ({ cls := "LackFerry$Shores", name := "looksLike", desc := "(LLackFerry$Shores;)Z" } : Jvm.MethodName)) ∈ ab_G := ab_gm (tb_in4 (List.mem_of_getElem? (i := 126) rfl)) rfl
set_option maxRecDepth 100000 in
theorem kw_847 : (Jvm.Cond.instanceMethod ({ cls := "LackFerry$Shores", name := "looksLike", desc := "(LLackFerry$Shores;)Z" } : Jvm.MethodName)) ∈ ab_G := ab_gm (tb_in4 (List.mem_of_getElem? (i := 127) rfl)) rfl
set_option maxRecDepth 100000 in
theorem kw_848 : (Jvm.Cond.selects "LackFerry$Shores" ({ cls := "LackFerry$Shores", name := "looksLike", desc := "(LLackFerry$Shores;)Z" } : Jvm.MethodName) ({ cls := "LackFerry$Shores", name := "looksLike", desc := "(LLackFerry$Shores;)Z" } : Jvm.MethodName)) ∈ ab_G := ab_gm (tb_in4 (List.mem_of_getElem? (i := 128) rfl)) rfl
set_option maxRecDepth 100000 in
theorem kw_849 : (Jvm.Cond.code ({ cls := "LackFerry$Shores", name := "looksLike", desc := "(LLackFerry$Shores;)Z" } : Jvm.MethodName) prog_8_method_4_code (3 : Nat) (Option.some Jvm.ClassFile.FieldType.boolean)) ∈ ab_G := ab_gm (tb_in4 (List.mem_of_getElem? (i := 129) rfl)) rfl
set_option maxRecDepth 100000 in
theorem kw_850 : (Jvm.Cond.methodLink "LackFerryLaw" (131 : Nat) ({ cls := "LackFerry", name := "hunger", desc := "(III)I" } : Jvm.MethodName)) ∈ ab_G := ab_gm (tb_in4 (List.mem_of_getElem? (i := 130) rfl)) rfl
set_option maxRecDepth 100000 in
theorem kw_851 : (Jvm.Cond.instanceMethod ({ cls := "LackFerry", name := "hunger", desc := "(III)I" } : Jvm.MethodName)) ∈ ab_G := ab_gm (tb_in4 (List.mem_of_getElem? (i := 131) rfl)) rfl
set_option maxRecDepth 100000 in
theorem kw_852 : (Jvm.Cond.selects "LackFerry" ({ cls := "LackFerry", name := "hunger", desc := "(III)I" } : Jvm.MethodName) ({ cls := "LackFerry", name := "hunger", desc := "(III)I" } : Jvm.MethodName)) ∈ ab_G := ab_gm (tb_in4 (List.mem_of_getElem? (i := 132) rfl)) rfl
set_option maxRecDepth 100000 in
theorem kw_853 : (Jvm.Cond.code ({ cls := "LackFerry", name := "hunger", desc := "(III)I" } : Jvm.MethodName) prog_1_method_42_code (5 : Nat) (Option.some Jvm.ClassFile.FieldType.int)) ∈ ab_G := ab_gm (tb_in4 (List.mem_of_getElem? (i := 133) rfl)) rfl
set_option maxRecDepth 100000 in
theorem kw_854 : (Jvm.Cond.methodLink "LackFerryLaw" (123 : Nat) ({ cls := "LackFerry", name := "which", desc := "()I" } : Jvm.MethodName)) ∈ ab_G := ab_gm (tb_in4 (List.mem_of_getElem? (i := 134) rfl)) rfl
set_option maxRecDepth 100000 in
theorem kw_855 : (Jvm.Cond.instanceMethod ({ cls := "LackFerry", name := "which", desc := "()I" } : Jvm.MethodName)) ∈ ab_G := ab_gm (tb_in4 (List.mem_of_getElem? (i := 135) rfl)) rfl
set_option maxRecDepth 100000 in
theorem kw_856 : (Jvm.Cond.selects "LackFerry" ({ cls := "LackFerry", name := "which", desc := "()I" } : Jvm.MethodName) ({ cls := "LackFerry", name := "which", desc := "()I" } : Jvm.MethodName)) ∈ ab_G := ab_gm (tb_in4 (List.mem_of_getElem? (i := 136) rfl)) rfl
set_option maxRecDepth 100000 in
theorem kw_857 : (Jvm.Cond.code ({ cls := "LackFerry", name := "which", desc := "()I" } : Jvm.MethodName) prog_1_method_43_code (6 : Nat) (Option.some Jvm.ClassFile.FieldType.int)) ∈ ab_G := ab_gm (tb_in4 (List.mem_of_getElem? (i := 137) rfl)) rfl
set_option maxRecDepth 100000 in
theorem kw_858 : (Jvm.Cond.methodLink "LackFerry" (309 : Nat) ({ cls := "LackFerry$Tape", name := "valueAt", desc := "(I)I" } : Jvm.MethodName)) ∈ ab_G := ab_gm (tb_in4 (List.mem_of_getElem? (i := 138) rfl)) rfl
set_option maxRecDepth 100000 in
theorem kw_859 : (Jvm.Cond.methodLink "LackFerry" (312 : Nat) ({ cls := "LackFerry", name := "couldGoSo", desc := "(II)Z" } : Jvm.MethodName)) ∈ ab_G := ab_gm (tb_in4 (List.mem_of_getElem? (i := 139) rfl)) rfl
set_option maxRecDepth 100000 in
theorem kw_861 : (Jvm.Cond.instanceMethod ({ cls := "LackFerry", name := "couldGoSo", desc := "(II)Z" } : Jvm.MethodName)) ∈ ab_G := ab_gm (tb_in4 (List.mem_of_getElem? (i := 141) rfl)) rfl
set_option maxRecDepth 100000 in
theorem kw_862 : (Jvm.Cond.code ({ cls := "LackFerry", name := "couldGoSo", desc := "(II)Z" } : Jvm.MethodName) prog_1_method_44_code (4 : Nat) (Option.some Jvm.ClassFile.FieldType.boolean)) ∈ ab_G := ab_gm (tb_in4 (List.mem_of_getElem? (i := 142) rfl)) rfl
set_option maxRecDepth 100000 in
theorem kw_863 : (Jvm.Cond.methodLink "LackFerryLaw" (135 : Nat) ({ cls := "LackFerry", name := "prices", desc := "()I" } : Jvm.MethodName)) ∈ ab_G := ab_gm (tb_in4 (List.mem_of_getElem? (i := 143) rfl)) rfl
set_option maxRecDepth 100000 in
theorem kw_864 : (Jvm.Cond.instanceMethod ({ cls := "LackFerry", name := "prices", desc := "()I" } : Jvm.MethodName)) ∈ ab_G := ab_gm (tb_in4 (List.mem_of_getElem? (i := 144) rfl)) rfl
set_option maxRecDepth 100000 in
theorem kw_865 : (Jvm.Cond.selects "LackFerry" ({ cls := "LackFerry", name := "prices", desc := "()I" } : Jvm.MethodName) ({ cls := "LackFerry", name := "prices", desc := "()I" } : Jvm.MethodName)) ∈ ab_G := ab_gm (tb_in4 (List.mem_of_getElem? (i := 145) rfl)) rfl
set_option maxRecDepth 100000 in
theorem kw_866 : (Jvm.Cond.code ({ cls := "LackFerry", name := "prices", desc := "()I" } : Jvm.MethodName) prog_1_method_45_code (2 : Nat) (Option.some Jvm.ClassFile.FieldType.int)) ∈ ab_G := ab_gm (tb_in4 (List.mem_of_getElem? (i := 146) rfl)) rfl
set_option maxRecDepth 100000 in
theorem kw_867 : (Jvm.Cond.methodLink "LackFerry" (318 : Nat) ({ cls := "LackFerry", name := "movePrices", desc := "()Z" } : Jvm.MethodName)) ∈ ab_G := ab_gm (tb_in4 (List.mem_of_getElem? (i := 147) rfl)) rfl
set_option maxRecDepth 100000 in
theorem kw_869 : (Jvm.Cond.instanceMethod ({ cls := "LackFerry", name := "movePrices", desc := "()Z" } : Jvm.MethodName)) ∈ ab_G := ab_gm (tb_in4 (List.mem_of_getElem? (i := 149) rfl)) rfl
set_option maxRecDepth 100000 in
theorem kw_870 : (Jvm.Cond.code ({ cls := "LackFerry", name := "movePrices", desc := "()Z" } : Jvm.MethodName) prog_1_method_46_code (4 : Nat) (Option.some Jvm.ClassFile.FieldType.boolean)) ∈ ab_G := ab_gm (tb_in4 (List.mem_of_getElem? (i := 150) rfl)) rfl
set_option maxRecDepth 100000 in
theorem kw_871 : (Jvm.Cond.methodLink "LackFerryLaw" (139 : Nat) ({ cls := "LackFerry", name := "price", desc := "(II)I" } : Jvm.MethodName)) ∈ ab_G := ab_gm (tb_in4 (List.mem_of_getElem? (i := 151) rfl)) rfl
set_option maxRecDepth 100000 in
theorem kw_872 : (Jvm.Cond.instanceMethod ({ cls := "LackFerry", name := "price", desc := "(II)I" } : Jvm.MethodName)) ∈ ab_G := ab_gm (tb_in4 (List.mem_of_getElem? (i := 152) rfl)) rfl
set_option maxRecDepth 100000 in
theorem kw_873 : (Jvm.Cond.selects "LackFerry" ({ cls := "LackFerry", name := "price", desc := "(II)I" } : Jvm.MethodName) ({ cls := "LackFerry", name := "price", desc := "(II)I" } : Jvm.MethodName)) ∈ ab_G := ab_gm (tb_in4 (List.mem_of_getElem? (i := 153) rfl)) rfl
set_option maxRecDepth 100000 in
theorem kw_874 : (Jvm.Cond.code ({ cls := "LackFerry", name := "price", desc := "(II)I" } : Jvm.MethodName) prog_1_method_47_code (4 : Nat) (Option.some Jvm.ClassFile.FieldType.int)) ∈ ab_G := ab_gm (tb_in4 (List.mem_of_getElem? (i := 154) rfl)) rfl
set_option maxRecDepth 100000 in
theorem kw_875 : (Jvm.Cond.methodLink "LackFerryLaw" (155 : Nat) ({ cls := "LackFerry", name := "drawn", desc := "(II)I" } : Jvm.MethodName)) ∈ ab_G := ab_gm (tb_in4 (List.mem_of_getElem? (i := 155) rfl)) rfl
set_option maxRecDepth 100000 in
theorem kw_876 : (Jvm.Cond.instanceMethod ({ cls := "LackFerry", name := "drawn", desc := "(II)I" } : Jvm.MethodName)) ∈ ab_G := ab_gm (tb_in4 (List.mem_of_getElem? (i := 156) rfl)) rfl
set_option maxRecDepth 100000 in
theorem kw_877 : (Jvm.Cond.selects "LackFerry" ({ cls := "LackFerry", name := "drawn", desc := "(II)I" } : Jvm.MethodName) ({ cls := "LackFerry", name := "drawn", desc := "(II)I" } : Jvm.MethodName)) ∈ ab_G := ab_gm (tb_in4 (List.mem_of_getElem? (i := 157) rfl)) rfl
set_option maxRecDepth 100000 in
theorem kw_878 : (Jvm.Cond.code ({ cls := "LackFerry", name := "drawn", desc := "(II)I" } : Jvm.MethodName) prog_1_method_48_code (3 : Nat) (Option.some Jvm.ClassFile.FieldType.int)) ∈ ab_G := ab_gm (tb_in4 (List.mem_of_getElem? (i := 158) rfl)) rfl
set_option maxRecDepth 100000 in
theorem kw_879 : (Jvm.Cond.methodLink "LackFerry" (322 : Nat) ({ cls := "LackFerry", name := "drawDays", desc := "(LLackFerry$Shores;II)I" } : Jvm.MethodName)) ∈ ab_G := ab_gm (tb_in4 (List.mem_of_getElem? (i := 159) rfl)) rfl
set_option maxRecDepth 100000 in
theorem kw_881 : (Jvm.Cond.instanceMethod ({ cls := "LackFerry", name := "drawDays", desc := "(LLackFerry$Shores;II)I" } : Jvm.MethodName)) ∈ ab_G := ab_gm (tb_in4 (List.mem_of_getElem? (i := 161) rfl)) rfl
set_option maxRecDepth 100000 in
theorem kw_882 : (Jvm.Cond.code ({ cls := "LackFerry", name := "drawDays", desc := "(LLackFerry$Shores;II)I" } : Jvm.MethodName) prog_1_method_50_code (6 : Nat) (Option.some Jvm.ClassFile.FieldType.int)) ∈ ab_G := ab_gm (tb_in4 (List.mem_of_getElem? (i := 162) rfl)) rfl
set_option maxRecDepth 100000 in
theorem kw_883 : (Jvm.Cond.methodLink "LackFerry" (329 : Nat) ({ cls := "LackFerry", name := "drawDeed", desc := "(LLackFerry$Shores;)V" } : Jvm.MethodName)) ∈ ab_G := ab_gm (tb_in4 (List.mem_of_getElem? (i := 163) rfl)) rfl
set_option maxRecDepth 100000 in
theorem kw_885 : (Jvm.Cond.instanceMethod ({ cls := "LackFerry", name := "drawDeed", desc := "(LLackFerry$Shores;)V" } : Jvm.MethodName)) ∈ ab_G := ab_gm (tb_in4 (List.mem_of_getElem? (i := 165) rfl)) rfl
set_option maxRecDepth 100000 in
theorem kw_886 : (Jvm.Cond.code ({ cls := "LackFerry", name := "drawDeed", desc := "(LLackFerry$Shores;)V" } : Jvm.MethodName) prog_1_method_51_code (6 : Nat) (Option.none : Option Jvm.ClassFile.FieldType)) ∈ ab_G := ab_gm (tb_in4 (List.mem_of_getElem? (i := 166) rfl)) rfl
set_option maxRecDepth 100000 in
theorem kw_887 : (Jvm.Cond.methodLink "LackFerry" (335 : Nat) ({ cls := "LackFerry$Draws", name := "drawOf", desc := "(I)I" } : Jvm.MethodName)) ∈ ab_G := ab_gm (tb_in4 (List.mem_of_getElem? (i := 167) rfl)) rfl
set_option maxRecDepth 100000 in
theorem kw_888 : (Jvm.Cond.instanceMethod ({ cls := "LackFerry$Draws", name := "drawOf", desc := "(I)I" } : Jvm.MethodName)) ∈ ab_G := ab_gm (tb_in4 (List.mem_of_getElem? (i := 168) rfl)) rfl
set_option maxRecDepth 100000 in
theorem kw_889 : (Jvm.Cond.selects "LackFerry$Draws" ({ cls := "LackFerry$Draws", name := "drawOf", desc := "(I)I" } : Jvm.MethodName) ({ cls := "LackFerry$Draws", name := "drawOf", desc := "(I)I" } : Jvm.MethodName)) ∈ ab_G := ab_gm (tb_in4 (List.mem_of_getElem? (i := 169) rfl)) rfl
set_option maxRecDepth 100000 in
theorem kw_890 : (Jvm.Cond.code ({ cls := "LackFerry$Draws", name := "drawOf", desc := "(I)I" } : Jvm.MethodName) prog_2_method_2_code (2 : Nat) (Option.some Jvm.ClassFile.FieldType.int)) ∈ ab_G := ab_gm (tb_in4 (List.mem_of_getElem? (i := 170) rfl)) rfl
set_option maxRecDepth 100000 in
theorem kw_891 : (Jvm.Cond.constant "LackFerry$Draws" (13 : Nat) (1103515245 : Int32)) ∈ ab_G := ab_gm (tb_in4 (List.mem_of_getElem? (i := 171) rfl)) rfl
set_option maxRecDepth 100000 in
theorem kw_892 : (Jvm.Cond.methodLink "LackFerry" (338 : Nat) ({ cls := "LackFerry$Shores", name := "attempt", desc := "(III)I" } : Jvm.MethodName)) ∈ ab_G := ab_gm (tb_in4 (List.mem_of_getElem? (i := 172) rfl)) rfl
set_option maxRecDepth 100000 in
theorem kw_893 : (Jvm.Cond.instanceMethod ({ cls := "LackFerry$Shores", name := "attempt", desc := "(III)I" } : Jvm.MethodName)) ∈ ab_G := ab_gm (tb_in4 (List.mem_of_getElem? (i := 173) rfl)) rfl
set_option maxRecDepth 100000 in
theorem kw_894 : (Jvm.Cond.selects "LackFerry$Shores" ({ cls := "LackFerry$Shores", name := "attempt", desc := "(III)I" } : Jvm.MethodName) ({ cls := "LackFerry$Shores", name := "attempt", desc := "(III)I" } : Jvm.MethodName)) ∈ ab_G := ab_gm (tb_in4 (List.mem_of_getElem? (i := 174) rfl)) rfl
set_option maxRecDepth 100000 in
theorem kw_895 : (Jvm.Cond.code ({ cls := "LackFerry$Shores", name := "attempt", desc := "(III)I" } : Jvm.MethodName) prog_8_method_19_code (5 : Nat) (Option.some Jvm.ClassFile.FieldType.int)) ∈ ab_G := ab_gm (tb_in4 (List.mem_of_getElem? (i := 175) rfl)) rfl
set_option maxRecDepth 100000 in
theorem kw_896 : (Jvm.Cond.methodLink "LackFerry$Shores" (89 : Nat) ({ cls := "LackFerry$Shores", name := "whyNot", desc := "(III)I" } : Jvm.MethodName)) ∈ ab_G := ab_gm (tb_in4 (List.mem_of_getElem? (i := 176) rfl)) rfl
set_option maxRecDepth 100000 in
theorem kw_897 : (Jvm.Cond.methodLink "LackFerry$Shores" (93 : Nat) ({ cls := "LackFerry$Shores", name := "perform", desc := "(III)V" } : Jvm.MethodName)) ∈ ab_G := ab_gm (tb_in4 (List.mem_of_getElem? (i := 177) rfl)) rfl
set_option maxRecDepth 100000 in
theorem kw_898 : (Jvm.Cond.methodLink "LackFerry" (332 : Nat) ({ cls := "LackFerry", name := "drawDeath", desc := "(LLackFerry$Shores;)V" } : Jvm.MethodName)) ∈ ab_G := ab_gm (tb_in4 (List.mem_of_getElem? (i := 178) rfl)) rfl
set_option maxRecDepth 100000 in
theorem kw_900 : (Jvm.Cond.instanceMethod ({ cls := "LackFerry", name := "drawDeath", desc := "(LLackFerry$Shores;)V" } : Jvm.MethodName)) ∈ ab_G := ab_gm (tb_in4 (List.mem_of_getElem? (i := 180) rfl)) rfl
set_option maxRecDepth 100000 in
theorem kw_901 : (Jvm.Cond.code ({ cls := "LackFerry", name := "drawDeath", desc := "(LLackFerry$Shores;)V" } : Jvm.MethodName) prog_1_method_52_code (2 : Nat) (Option.none : Option Jvm.ClassFile.FieldType)) ∈ ab_G := ab_gm (tb_in4 (List.mem_of_getElem? (i := 181) rfl)) rfl
set_option maxRecDepth 100000 in
theorem kw_902 : (Jvm.Cond.methodLink "LackFerryLaw" (159 : Nat) ({ cls := "LackFerry", name := "odds", desc := "(III)I" } : Jvm.MethodName)) ∈ ab_G := ab_gm (tb_in4 (List.mem_of_getElem? (i := 182) rfl)) rfl
set_option maxRecDepth 100000 in
theorem kw_903 : (Jvm.Cond.instanceMethod ({ cls := "LackFerry", name := "odds", desc := "(III)I" } : Jvm.MethodName)) ∈ ab_G := ab_gm (tb_in4 (List.mem_of_getElem? (i := 183) rfl)) rfl
set_option maxRecDepth 100000 in
theorem kw_904 : (Jvm.Cond.selects "LackFerry" ({ cls := "LackFerry", name := "odds", desc := "(III)I" } : Jvm.MethodName) ({ cls := "LackFerry", name := "odds", desc := "(III)I" } : Jvm.MethodName)) ∈ ab_G := ab_gm (tb_in4 (List.mem_of_getElem? (i := 184) rfl)) rfl
set_option maxRecDepth 100000 in
theorem kw_905 : (Jvm.Cond.code ({ cls := "LackFerry", name := "odds", desc := "(III)I" } : Jvm.MethodName) prog_1_method_49_code (6 : Nat) (Option.some Jvm.ClassFile.FieldType.int)) ∈ ab_G := ab_gm (tb_in4 (List.mem_of_getElem? (i := 185) rfl)) rfl
set_option maxRecDepth 100000 in
theorem kw_906 : (Jvm.Cond.methodLink "LackFerryLaw" (163 : Nat) ({ cls := "LackFerry", name := "log", desc := "(I)I" } : Jvm.MethodName)) ∈ ab_G := ab_gm (tb_in4 (List.mem_of_getElem? (i := 186) rfl)) rfl
set_option maxRecDepth 100000 in
theorem kw_907 : (Jvm.Cond.instanceMethod ({ cls := "LackFerry", name := "log", desc := "(I)I" } : Jvm.MethodName)) ∈ ab_G := ab_gm (tb_in4 (List.mem_of_getElem? (i := 187) rfl)) rfl
set_option maxRecDepth 100000 in
theorem kw_908 : (Jvm.Cond.selects "LackFerry" ({ cls := "LackFerry", name := "log", desc := "(I)I" } : Jvm.MethodName) ({ cls := "LackFerry", name := "log", desc := "(I)I" } : Jvm.MethodName)) ∈ ab_G := ab_gm (tb_in4 (List.mem_of_getElem? (i := 188) rfl)) rfl
set_option maxRecDepth 100000 in
theorem kw_909 : (Jvm.Cond.code ({ cls := "LackFerry", name := "log", desc := "(I)I" } : Jvm.MethodName) prog_1_method_53_code (3 : Nat) (Option.some Jvm.ClassFile.FieldType.int)) ∈ ab_G := ab_gm (tb_in4 (List.mem_of_getElem? (i := 189) rfl)) rfl
set_option maxRecDepth 100000 in
theorem kw_910 : (Jvm.Cond.methodLink "LackFerry" (341 : Nat) ({ cls := "LackFerry$LogText", name := "readText", desc := "(LLackFerry$Tokens;LLackFerry$Strait;)V" } : Jvm.MethodName)) ∈ ab_G := ab_gm (tb_in4 (List.mem_of_getElem? (i := 190) rfl)) rfl
set_option maxRecDepth 100000 in
theorem kw_911 : (Jvm.Cond.instanceMethod ({ cls := "LackFerry$LogText", name := "readText", desc := "(LLackFerry$Tokens;LLackFerry$Strait;)V" } : Jvm.MethodName)) ∈ ab_G := ab_gm (tb_in4 (List.mem_of_getElem? (i := 191) rfl)) rfl
set_option maxRecDepth 100000 in
theorem kw_912 : (Jvm.Cond.selects "LackFerry$LogText" ({ cls := "LackFerry$LogText", name := "readText", desc := "(LLackFerry$Tokens;LLackFerry$Strait;)V" } : Jvm.MethodName) ({ cls := "LackFerry$LogText", name := "readText", desc := "(LLackFerry$Tokens;LLackFerry$Strait;)V" } : Jvm.MethodName)) ∈ ab_G := ab_gm (tb_in4 (List.mem_of_getElem? (i := 192) rfl)) rfl
set_option maxRecDepth 100000 in
theorem kw_913 : (Jvm.Cond.code ({ cls := "LackFerry$LogText", name := "readText", desc := "(LLackFerry$Tokens;LLackFerry$Strait;)V" } : Jvm.MethodName) prog_6_method_2_code (5 : Nat) (Option.none : Option Jvm.ClassFile.FieldType)) ∈ ab_G := ab_gm (tb_in4 (List.mem_of_getElem? (i := 193) rfl)) rfl
set_option maxRecDepth 100000 in
theorem kw_914 : (Jvm.Cond.methodLink "LackFerry$LogText" (25 : Nat) ({ cls := "LackFerry$Tokens", name := "step", desc := "()V" } : Jvm.MethodName)) ∈ ab_G := ab_gm (tb_in4 (List.mem_of_getElem? (i := 194) rfl)) rfl
set_option maxRecDepth 100000 in
theorem kw_915 : (Jvm.Cond.methodLink "LackFerry$LogText" (33 : Nat) ({ cls := "LackFerry$LogText", name := "readLine", desc := "(LLackFerry$Tokens;LLackFerry$Strait;)Z" } : Jvm.MethodName)) ∈ ab_G := ab_gm (tb_in4 (List.mem_of_getElem? (i := 195) rfl)) rfl
set_option maxRecDepth 100000 in
theorem kw_917 : (Jvm.Cond.instanceMethod ({ cls := "LackFerry$LogText", name := "readLine", desc := "(LLackFerry$Tokens;LLackFerry$Strait;)Z" } : Jvm.MethodName)) ∈ ab_G := ab_gm (tb_in4 (List.mem_of_getElem? (i := 197) rfl)) rfl
set_option maxRecDepth 100000 in
theorem kw_918 : (Jvm.Cond.code ({ cls := "LackFerry$LogText", name := "readLine", desc := "(LLackFerry$Tokens;LLackFerry$Strait;)Z" } : Jvm.MethodName) prog_6_method_3_code (6 : Nat) (Option.some Jvm.ClassFile.FieldType.boolean)) ∈ ab_G := ab_gm (tb_in4 (List.mem_of_getElem? (i := 198) rfl)) rfl
set_option maxRecDepth 100000 in
theorem kw_919 : (Jvm.Cond.methodLink "LackFerry$LogText" (41 : Nat) ({ cls := "LackFerry$Tokens", name := "fail", desc := "(I)Z" } : Jvm.MethodName)) ∈ ab_G := ab_gm (tb_in4 (List.mem_of_getElem? (i := 199) rfl)) rfl
set_option maxRecDepth 100000 in
theorem kw_920 : (Jvm.Cond.methodLink "LackFerry$LogText" (48 : Nat) ({ cls := "LackFerry$Strait", name := "manNamed", desc := "(J)I" } : Jvm.MethodName)) ∈ ab_G := ab_gm (tb_in4 (List.mem_of_getElem? (i := 200) rfl)) rfl
set_option maxRecDepth 100000 in
theorem kw_921 : (Jvm.Cond.methodLink "LackFerry$LogText" (54 : Nat) ({ cls := "LackFerry$LogText", name := "readDeed", desc := "(LLackFerry$Tokens;LLackFerry$Strait;I)Z" } : Jvm.MethodName)) ∈ ab_G := ab_gm (tb_in4 (List.mem_of_getElem? (i := 201) rfl)) rfl
set_option maxRecDepth 100000 in
theorem kw_923 : (Jvm.Cond.instanceMethod ({ cls := "LackFerry$LogText", name := "readDeed", desc := "(LLackFerry$Tokens;LLackFerry$Strait;I)Z" } : Jvm.MethodName)) ∈ ab_G := ab_gm (tb_in4 (List.mem_of_getElem? (i := 203) rfl)) rfl
set_option maxRecDepth 100000 in
theorem kw_924 : (Jvm.Cond.code ({ cls := "LackFerry$LogText", name := "readDeed", desc := "(LLackFerry$Tokens;LLackFerry$Strait;I)Z" } : Jvm.MethodName) prog_6_method_4_code (6 : Nat) (Option.some Jvm.ClassFile.FieldType.boolean)) ∈ ab_G := ab_gm (tb_in4 (List.mem_of_getElem? (i := 204) rfl)) rfl
set_option maxRecDepth 100000 in
theorem kw_925 : (Jvm.Cond.methodLink "LackFerry$LogText" (66 : Nat) ({ cls := "LackFerry$Strait", name := "takeGood", desc := "(LLackFerry$Tokens;)I" } : Jvm.MethodName)) ∈ ab_G := ab_gm (tb_in4 (List.mem_of_getElem? (i := 205) rfl)) rfl
set_option maxRecDepth 100000 in
theorem kw_926 : (Jvm.Cond.methodLink "LackFerry$LogText" (70 : Nat) ({ cls := "LackFerry$Tokens", name := "takeNumber", desc := "(II)Z" } : Jvm.MethodName)) ∈ ab_G := ab_gm (tb_in4 (List.mem_of_getElem? (i := 206) rfl)) rfl
set_option maxRecDepth 100000 in
theorem kw_928 : (Jvm.Cond.methodLink "LackFerry$LogText" (81 : Nat) ({ cls := "LackFerry$LogText", name := "addLine", desc := "(III)Z" } : Jvm.MethodName)) ∈ ab_G := ab_gm (tb_in4 (List.mem_of_getElem? (i := 208) rfl)) rfl
set_option maxRecDepth 100000 in
theorem kw_930 : (Jvm.Cond.instanceMethod ({ cls := "LackFerry$LogText", name := "addLine", desc := "(III)Z" } : Jvm.MethodName)) ∈ ab_G := ab_gm (tb_in4 (List.mem_of_getElem? (i := 210) rfl)) rfl
set_option maxRecDepth 100000 in
theorem kw_931 : (Jvm.Cond.code ({ cls := "LackFerry$LogText", name := "addLine", desc := "(III)Z" } : Jvm.MethodName) prog_6_method_7_code (4 : Nat) (Option.some Jvm.ClassFile.FieldType.boolean)) ∈ ab_G := ab_gm (tb_in4 (List.mem_of_getElem? (i := 211) rfl)) rfl
set_option maxRecDepth 100000 in
theorem kw_932 : (Jvm.Cond.methodLink "LackFerry$LogText" (58 : Nat) ({ cls := "LackFerry$LogText", name := "readDays", desc := "(LLackFerry$Tokens;)Z" } : Jvm.MethodName)) ∈ ab_G := ab_gm (tb_in4 (List.mem_of_getElem? (i := 212) rfl)) rfl
set_option maxRecDepth 100000 in
theorem kw_934 : (Jvm.Cond.instanceMethod ({ cls := "LackFerry$LogText", name := "readDays", desc := "(LLackFerry$Tokens;)Z" } : Jvm.MethodName)) ∈ ab_G := ab_gm (tb_in4 (List.mem_of_getElem? (i := 214) rfl)) rfl
set_option maxRecDepth 100000 in
theorem kw_935 : (Jvm.Cond.code ({ cls := "LackFerry$LogText", name := "readDays", desc := "(LLackFerry$Tokens;)Z" } : Jvm.MethodName) prog_6_method_5_code (2 : Nat) (Option.some Jvm.ClassFile.FieldType.boolean)) ∈ ab_G := ab_gm (tb_in4 (List.mem_of_getElem? (i := 215) rfl)) rfl
set_option maxRecDepth 100000 in
theorem kw_936 : (Jvm.Cond.methodLink "LackFerry$LogText" (62 : Nat) ({ cls := "LackFerry$LogText", name := "readDeath", desc := "(LLackFerry$Tokens;I)Z" } : Jvm.MethodName)) ∈ ab_G := ab_gm (tb_in4 (List.mem_of_getElem? (i := 216) rfl)) rfl
set_option maxRecDepth 100000 in
theorem kw_938 : (Jvm.Cond.instanceMethod ({ cls := "LackFerry$LogText", name := "readDeath", desc := "(LLackFerry$Tokens;I)Z" } : Jvm.MethodName)) ∈ ab_G := ab_gm (tb_in4 (List.mem_of_getElem? (i := 218) rfl)) rfl
set_option maxRecDepth 100000 in
theorem kw_939 : (Jvm.Cond.code ({ cls := "LackFerry$LogText", name := "readDeath", desc := "(LLackFerry$Tokens;I)Z" } : Jvm.MethodName) prog_6_method_6_code (3 : Nat) (Option.some Jvm.ClassFile.FieldType.boolean)) ∈ ab_G := ab_gm (tb_in4 (List.mem_of_getElem? (i := 219) rfl)) rfl
set_option maxRecDepth 100000 in
theorem kw_940 : (Jvm.Cond.methodLink "LackFerry$LogText" (37 : Nat) ({ cls := "LackFerry$Tokens", name := "takeSign", desc := "(I)Z" } : Jvm.MethodName)) ∈ ab_G := ab_gm (tb_in4 (List.mem_of_getElem? (i := 220) rfl)) rfl
set_option maxRecDepth 100000 in
theorem kw_941 : (Jvm.Cond.methodLink "LackFerry" (344 : Nat) ({ cls := "LackFerry", name := "judgeLog", desc := "()I" } : Jvm.MethodName)) ∈ ab_G := ab_gm (tb_in4 (List.mem_of_getElem? (i := 221) rfl)) rfl
set_option maxRecDepth 100000 in
theorem kw_943 : (Jvm.Cond.instanceMethod ({ cls := "LackFerry", name := "judgeLog", desc := "()I" } : Jvm.MethodName)) ∈ ab_G := ab_gm (tb_in4 (List.mem_of_getElem? (i := 223) rfl)) rfl
set_option maxRecDepth 100000 in
theorem kw_944 : (Jvm.Cond.code ({ cls := "LackFerry", name := "judgeLog", desc := "()I" } : Jvm.MethodName) prog_1_method_54_code (3 : Nat) (Option.some Jvm.ClassFile.FieldType.int)) ∈ ab_G := ab_gm (tb_in4 (List.mem_of_getElem? (i := 224) rfl)) rfl
set_option maxRecDepth 100000 in
theorem kw_945 : (Jvm.Cond.methodLink "LackFerry" (359 : Nat) ({ cls := "LackFerry", name := "liveLine", desc := "(III)I" } : Jvm.MethodName)) ∈ ab_G := ab_gm (tb_in4 (List.mem_of_getElem? (i := 225) rfl)) rfl
set_option maxRecDepth 100000 in
theorem kw_947 : (Jvm.Cond.instanceMethod ({ cls := "LackFerry", name := "liveLine", desc := "(III)I" } : Jvm.MethodName)) ∈ ab_G := ab_gm (tb_in4 (List.mem_of_getElem? (i := 227) rfl)) rfl
set_option maxRecDepth 100000 in
theorem kw_948 : (Jvm.Cond.code ({ cls := "LackFerry", name := "liveLine", desc := "(III)I" } : Jvm.MethodName) prog_1_method_55_code (5 : Nat) (Option.some Jvm.ClassFile.FieldType.int)) ∈ ab_G := ab_gm (tb_in4 (List.mem_of_getElem? (i := 228) rfl)) rfl
set_option maxRecDepth 100000 in
theorem kw_949 : (Jvm.Cond.methodLink "LackFerryLaw" (167 : Nat) ({ cls := "LackFerry", name := "logged", desc := "(I)I" } : Jvm.MethodName)) ∈ ab_G := ab_gm (tb_in4 (List.mem_of_getElem? (i := 229) rfl)) rfl
set_option maxRecDepth 100000 in
theorem kw_950 : (Jvm.Cond.instanceMethod ({ cls := "LackFerry", name := "logged", desc := "(I)I" } : Jvm.MethodName)) ∈ ab_G := ab_gm (tb_in4 (List.mem_of_getElem? (i := 230) rfl)) rfl
set_option maxRecDepth 100000 in
theorem kw_951 : (Jvm.Cond.selects "LackFerry" ({ cls := "LackFerry", name := "logged", desc := "(I)I" } : Jvm.MethodName) ({ cls := "LackFerry", name := "logged", desc := "(I)I" } : Jvm.MethodName)) ∈ ab_G := ab_gm (tb_in4 (List.mem_of_getElem? (i := 231) rfl)) rfl
set_option maxRecDepth 100000 in
theorem kw_952 : (Jvm.Cond.code ({ cls := "LackFerry", name := "logged", desc := "(I)I" } : Jvm.MethodName) prog_1_method_56_code (2 : Nat) (Option.some Jvm.ClassFile.FieldType.int)) ∈ ab_G := ab_gm (tb_in4 (List.mem_of_getElem? (i := 232) rfl)) rfl
set_option maxRecDepth 100000 in
theorem kw_953 : (Jvm.Cond.methodLink "LackFerryLaw" (171 : Nat) ({ cls := "LackFerry", name := "sentence", desc := "()I" } : Jvm.MethodName)) ∈ ab_G := ab_gm (tb_in4 (List.mem_of_getElem? (i := 233) rfl)) rfl
set_option maxRecDepth 100000 in
theorem kw_954 : (Jvm.Cond.instanceMethod ({ cls := "LackFerry", name := "sentence", desc := "()I" } : Jvm.MethodName)) ∈ ab_G := ab_gm (tb_in4 (List.mem_of_getElem? (i := 234) rfl)) rfl
set_option maxRecDepth 100000 in
theorem kw_955 : (Jvm.Cond.selects "LackFerry" ({ cls := "LackFerry", name := "sentence", desc := "()I" } : Jvm.MethodName) ({ cls := "LackFerry", name := "sentence", desc := "()I" } : Jvm.MethodName)) ∈ ab_G := ab_gm (tb_in4 (List.mem_of_getElem? (i := 235) rfl)) rfl
set_option maxRecDepth 100000 in
theorem kw_956 : (Jvm.Cond.code ({ cls := "LackFerry", name := "sentence", desc := "()I" } : Jvm.MethodName) prog_1_method_57_code (2 : Nat) (Option.some Jvm.ClassFile.FieldType.int)) ∈ ab_G := ab_gm (tb_in4 (List.mem_of_getElem? (i := 236) rfl)) rfl
set_option maxRecDepth 100000 in
theorem kw_957 : (Jvm.Cond.methodLink "LackFerry" (362 : Nat) ({ cls := "LackFerry$Sentence", name := "readText", desc := "(LLackFerry$Tokens;)V" } : Jvm.MethodName)) ∈ ab_G := ab_gm (tb_in4 (List.mem_of_getElem? (i := 237) rfl)) rfl
set_option maxRecDepth 100000 in
theorem kw_958 : (Jvm.Cond.instanceMethod ({ cls := "LackFerry$Sentence", name := "readText", desc := "(LLackFerry$Tokens;)V" } : Jvm.MethodName)) ∈ ab_G := ab_gm (tb_in4 (List.mem_of_getElem? (i := 238) rfl)) rfl
set_option maxRecDepth 100000 in
theorem kw_959 : (Jvm.Cond.selects "LackFerry$Sentence" ({ cls := "LackFerry$Sentence", name := "readText", desc := "(LLackFerry$Tokens;)V" } : Jvm.MethodName) ({ cls := "LackFerry$Sentence", name := "readText", desc := "(LLackFerry$Tokens;)V" } : Jvm.MethodName)) ∈ ab_G := ab_gm (tb_in4 (List.mem_of_getElem? (i := 239) rfl)) rfl
set_option maxRecDepth 100000 in
theorem kw_960 : (Jvm.Cond.code ({ cls := "LackFerry$Sentence", name := "readText", desc := "(LLackFerry$Tokens;)V" } : Jvm.MethodName) prog_7_method_3_code (2 : Nat) (Option.none : Option Jvm.ClassFile.FieldType)) ∈ ab_G := ab_gm (tb_in5 (List.mem_of_getElem? (i := 0) rfl)) rfl
set_option maxRecDepth 100000 in
theorem kw_961 : (Jvm.Cond.methodLink "LackFerry$Sentence" (38 : Nat) ({ cls := "LackFerry$Tokens", name := "step", desc := "()V" } : Jvm.MethodName)) ∈ ab_G := ab_gm (tb_in5 (List.mem_of_getElem? (i := 1) rfl)) rfl
set_option maxRecDepth 100000 in
theorem kw_962 : (Jvm.Cond.methodLink "LackFerry$Sentence" (43 : Nat) ({ cls := "LackFerry$Sentence", name := "readCond", desc := "(LLackFerry$Tokens;I)Z" } : Jvm.MethodName)) ∈ ab_G := ab_gm (tb_in5 (List.mem_of_getElem? (i := 2) rfl)) rfl
set_option maxRecDepth 100000 in
theorem kw_964 : (Jvm.Cond.instanceMethod ({ cls := "LackFerry$Sentence", name := "readCond", desc := "(LLackFerry$Tokens;I)Z" } : Jvm.MethodName)) ∈ ab_G := ab_gm (tb_in5 (List.mem_of_getElem? (i := 4) rfl)) rfl
set_option maxRecDepth 100000 in
theorem kw_965 : (Jvm.Cond.code ({ cls := "LackFerry$Sentence", name := "readCond", desc := "(LLackFerry$Tokens;I)Z" } : Jvm.MethodName) prog_7_method_4_code (4 : Nat) (Option.some Jvm.ClassFile.FieldType.boolean)) ∈ ab_G := ab_gm (tb_in5 (List.mem_of_getElem? (i := 5) rfl)) rfl
set_option maxRecDepth 100000 in
theorem kw_966 : (Jvm.Cond.methodLink "LackFerry$Sentence" (54 : Nat) ({ cls := "LackFerry$Sentence", name := "readAll", desc := "(LLackFerry$Tokens;I)Z" } : Jvm.MethodName)) ∈ ab_G := ab_gm (tb_in5 (List.mem_of_getElem? (i := 6) rfl)) rfl
set_option maxRecDepth 100000 in
theorem kw_968 : (Jvm.Cond.instanceMethod ({ cls := "LackFerry$Sentence", name := "readAll", desc := "(LLackFerry$Tokens;I)Z" } : Jvm.MethodName)) ∈ ab_G := ab_gm (tb_in5 (List.mem_of_getElem? (i := 8) rfl)) rfl
set_option maxRecDepth 100000 in
theorem kw_969 : (Jvm.Cond.code ({ cls := "LackFerry$Sentence", name := "readAll", desc := "(LLackFerry$Tokens;I)Z" } : Jvm.MethodName) prog_7_method_5_code (4 : Nat) (Option.some Jvm.ClassFile.FieldType.boolean)) ∈ ab_G := ab_gm (tb_in5 (List.mem_of_getElem? (i := 9) rfl)) rfl
set_option maxRecDepth 100000 in
theorem kw_970 : (Jvm.Cond.methodLink "LackFerry$Sentence" (61 : Nat) ({ cls := "LackFerry$Sentence", name := "readOne", desc := "(LLackFerry$Tokens;I)Z" } : Jvm.MethodName)) ∈ ab_G := ab_gm (tb_in5 (List.mem_of_getElem? (i := 10) rfl)) rfl
set_option maxRecDepth 100000 in
theorem kw_972 : (Jvm.Cond.instanceMethod ({ cls := "LackFerry$Sentence", name := "readOne", desc := "(LLackFerry$Tokens;I)Z" } : Jvm.MethodName)) ∈ ab_G := ab_gm (tb_in5 (List.mem_of_getElem? (i := 12) rfl)) rfl
set_option maxRecDepth 100000 in
theorem kw_973 : (Jvm.Cond.code ({ cls := "LackFerry$Sentence", name := "readOne", desc := "(LLackFerry$Tokens;I)Z" } : Jvm.MethodName) prog_7_method_6_code (6 : Nat) (Option.some Jvm.ClassFile.FieldType.boolean)) ∈ ab_G := ab_gm (tb_in5 (List.mem_of_getElem? (i := 13) rfl)) rfl
set_option maxRecDepth 100000 in
theorem kw_974 : (Jvm.Cond.methodLink "LackFerry$Sentence" (50 : Nat) ({ cls := "LackFerry$Tokens", name := "fail", desc := "(I)Z" } : Jvm.MethodName)) ∈ ab_G := ab_gm (tb_in5 (List.mem_of_getElem? (i := 14) rfl)) rfl
set_option maxRecDepth 100000 in
theorem kw_975 : (Jvm.Cond.methodLink "LackFerry$Sentence" (64 : Nat) ({ cls := "LackFerry$Sentence", name := "readBracket", desc := "(LLackFerry$Tokens;I)Z" } : Jvm.MethodName)) ∈ ab_G := ab_gm (tb_in5 (List.mem_of_getElem? (i := 15) rfl)) rfl
set_option maxRecDepth 100000 in
theorem kw_977 : (Jvm.Cond.instanceMethod ({ cls := "LackFerry$Sentence", name := "readBracket", desc := "(LLackFerry$Tokens;I)Z" } : Jvm.MethodName)) ∈ ab_G := ab_gm (tb_in5 (List.mem_of_getElem? (i := 17) rfl)) rfl
set_option maxRecDepth 100000 in
theorem kw_978 : (Jvm.Cond.code ({ cls := "LackFerry$Sentence", name := "readBracket", desc := "(LLackFerry$Tokens;I)Z" } : Jvm.MethodName) prog_7_method_7_code (3 : Nat) (Option.some Jvm.ClassFile.FieldType.boolean)) ∈ ab_G := ab_gm (tb_in5 (List.mem_of_getElem? (i := 18) rfl)) rfl
set_option maxRecDepth 100000 in
theorem kw_979 : (Jvm.Cond.methodLink "LackFerry$Sentence" (57 : Nat) ({ cls := "LackFerry$Sentence", name := "addOp", desc := "(III)Z" } : Jvm.MethodName)) ∈ ab_G := ab_gm (tb_in5 (List.mem_of_getElem? (i := 19) rfl)) rfl
set_option maxRecDepth 100000 in
theorem kw_981 : (Jvm.Cond.instanceMethod ({ cls := "LackFerry$Sentence", name := "addOp", desc := "(III)Z" } : Jvm.MethodName)) ∈ ab_G := ab_gm (tb_in5 (List.mem_of_getElem? (i := 21) rfl)) rfl
set_option maxRecDepth 100000 in
theorem kw_982 : (Jvm.Cond.code ({ cls := "LackFerry$Sentence", name := "addOp", desc := "(III)Z" } : Jvm.MethodName) prog_7_method_10_code (4 : Nat) (Option.some Jvm.ClassFile.FieldType.boolean)) ∈ ab_G := ab_gm (tb_in5 (List.mem_of_getElem? (i := 22) rfl)) rfl
set_option maxRecDepth 100000 in
theorem kw_983 : (Jvm.Cond.methodLink "LackFerry$Sentence" (67 : Nat) ({ cls := "LackFerry$Sentence", name := "readOnShore", desc := "(LLackFerry$Tokens;I)Z" } : Jvm.MethodName)) ∈ ab_G := ab_gm (tb_in5 (List.mem_of_getElem? (i := 23) rfl)) rfl
set_option maxRecDepth 100000 in
theorem kw_985 : (Jvm.Cond.instanceMethod ({ cls := "LackFerry$Sentence", name := "readOnShore", desc := "(LLackFerry$Tokens;I)Z" } : Jvm.MethodName)) ∈ ab_G := ab_gm (tb_in5 (List.mem_of_getElem? (i := 25) rfl)) rfl
set_option maxRecDepth 100000 in
theorem kw_986 : (Jvm.Cond.code ({ cls := "LackFerry$Sentence", name := "readOnShore", desc := "(LLackFerry$Tokens;I)Z" } : Jvm.MethodName) prog_7_method_8_code (4 : Nat) (Option.some Jvm.ClassFile.FieldType.boolean)) ∈ ab_G := ab_gm (tb_in5 (List.mem_of_getElem? (i := 26) rfl)) rfl
set_option maxRecDepth 100000 in
theorem kw_987 : (Jvm.Cond.methodLink "LackFerry$Sentence" (73 : Nat) ({ cls := "LackFerry$Tokens", name := "takeNumber", desc := "(II)Z" } : Jvm.MethodName)) ∈ ab_G := ab_gm (tb_in5 (List.mem_of_getElem? (i := 27) rfl)) rfl
set_option maxRecDepth 100000 in
theorem kw_988 : (Jvm.Cond.methodLink "LackFerry$Sentence" (70 : Nat) ({ cls := "LackFerry$Sentence", name := "readCompared", desc := "(LLackFerry$Tokens;I)Z" } : Jvm.MethodName)) ∈ ab_G := ab_gm (tb_in5 (List.mem_of_getElem? (i := 28) rfl)) rfl
set_option maxRecDepth 100000 in
theorem kw_990 : (Jvm.Cond.instanceMethod ({ cls := "LackFerry$Sentence", name := "readCompared", desc := "(LLackFerry$Tokens;I)Z" } : Jvm.MethodName)) ∈ ab_G := ab_gm (tb_in5 (List.mem_of_getElem? (i := 30) rfl)) rfl
set_option maxRecDepth 100000 in
theorem kw_991 : (Jvm.Cond.code ({ cls := "LackFerry$Sentence", name := "readCompared", desc := "(LLackFerry$Tokens;I)Z" } : Jvm.MethodName) prog_7_method_9_code (5 : Nat) (Option.some Jvm.ClassFile.FieldType.boolean)) ∈ ab_G := ab_gm (tb_in5 (List.mem_of_getElem? (i := 31) rfl)) rfl
set_option maxRecDepth 100000 in
theorem kw_992 : (Jvm.Cond.methodLink "LackFerryLaw" (175 : Nat) ({ cls := "LackFerry", name := "said", desc := "(I)I" } : Jvm.MethodName)) ∈ ab_G := ab_gm (tb_in5 (List.mem_of_getElem? (i := 32) rfl)) rfl
set_option maxRecDepth 100000 in
theorem kw_993 : (Jvm.Cond.instanceMethod ({ cls := "LackFerry", name := "said", desc := "(I)I" } : Jvm.MethodName)) ∈ ab_G := ab_gm (tb_in5 (List.mem_of_getElem? (i := 33) rfl)) rfl
set_option maxRecDepth 100000 in
theorem kw_994 : (Jvm.Cond.selects "LackFerry" ({ cls := "LackFerry", name := "said", desc := "(I)I" } : Jvm.MethodName) ({ cls := "LackFerry", name := "said", desc := "(I)I" } : Jvm.MethodName)) ∈ ab_G := ab_gm (tb_in5 (List.mem_of_getElem? (i := 34) rfl)) rfl
set_option maxRecDepth 100000 in
theorem kw_995 : (Jvm.Cond.code ({ cls := "LackFerry", name := "said", desc := "(I)I" } : Jvm.MethodName) prog_1_method_58_code (4 : Nat) (Option.some Jvm.ClassFile.FieldType.int)) ∈ ab_G := ab_gm (tb_in5 (List.mem_of_getElem? (i := 35) rfl)) rfl
set_option maxRecDepth 100000 in
theorem kw_996 : (Jvm.Cond.methodLink "LackFerry" (368 : Nat) ({ cls := "LackFerry$Sentence", name := "holdsOf", desc := "(ILLackFerry$Strait;LLackFerry$Shores;)Z" } : Jvm.MethodName)) ∈ ab_G := ab_gm (tb_in5 (List.mem_of_getElem? (i := 36) rfl)) rfl
set_option maxRecDepth 100000 in
theorem kw_997 : (Jvm.Cond.instanceMethod ({ cls := "LackFerry$Sentence", name := "holdsOf", desc := "(ILLackFerry$Strait;LLackFerry$Shores;)Z" } : Jvm.MethodName)) ∈ ab_G := ab_gm (tb_in5 (List.mem_of_getElem? (i := 37) rfl)) rfl
set_option maxRecDepth 100000 in
theorem kw_998 : (Jvm.Cond.selects "LackFerry$Sentence" ({ cls := "LackFerry$Sentence", name := "holdsOf", desc := "(ILLackFerry$Strait;LLackFerry$Shores;)Z" } : Jvm.MethodName) ({ cls := "LackFerry$Sentence", name := "holdsOf", desc := "(ILLackFerry$Strait;LLackFerry$Shores;)Z" } : Jvm.MethodName)) ∈ ab_G := ab_gm (tb_in5 (List.mem_of_getElem? (i := 38) rfl)) rfl
set_option maxRecDepth 100000 in
theorem kw_999 : (Jvm.Cond.code ({ cls := "LackFerry$Sentence", name := "holdsOf", desc := "(ILLackFerry$Strait;LLackFerry$Shores;)Z" } : Jvm.MethodName) prog_7_method_11_code (7 : Nat) (Option.some Jvm.ClassFile.FieldType.boolean)) ∈ ab_G := ab_gm (tb_in5 (List.mem_of_getElem? (i := 39) rfl)) rfl
set_option maxRecDepth 100000 in
theorem kw_1000 : (Jvm.Cond.methodLink "LackFerry$Sentence" (80 : Nat) ({ cls := "LackFerry$Sentence", name := "isSo", desc := "(IILLackFerry$Strait;LLackFerry$Shores;)Z" } : Jvm.MethodName)) ∈ ab_G := ab_gm (tb_in5 (List.mem_of_getElem? (i := 40) rfl)) rfl
set_option maxRecDepth 100000 in
theorem kw_1002 : (Jvm.Cond.instanceMethod ({ cls := "LackFerry$Sentence", name := "isSo", desc := "(IILLackFerry$Strait;LLackFerry$Shores;)Z" } : Jvm.MethodName)) ∈ ab_G := ab_gm (tb_in5 (List.mem_of_getElem? (i := 42) rfl)) rfl
set_option maxRecDepth 100000 in
theorem kw_1003 : (Jvm.Cond.code ({ cls := "LackFerry$Sentence", name := "isSo", desc := "(IILLackFerry$Strait;LLackFerry$Shores;)Z" } : Jvm.MethodName) prog_7_method_12_code (5 : Nat) (Option.some Jvm.ClassFile.FieldType.boolean)) ∈ ab_G := ab_gm (tb_in5 (List.mem_of_getElem? (i := 43) rfl)) rfl
set_option maxRecDepth 100000 in
theorem kw_1005 : (Jvm.Cond.methodLink "LackFerry$Sentence" (88 : Nat) ({ cls := "LackFerry$Sentence", name := "isSoThere", desc := "(IILLackFerry$Strait;LLackFerry$Shores;)Z" } : Jvm.MethodName)) ∈ ab_G := ab_gm (tb_in5 (List.mem_of_getElem? (i := 45) rfl)) rfl
set_option maxRecDepth 100000 in
theorem kw_1006 : (Jvm.Cond.static ({ cls := "LackFerry$Sentence", name := "isSoThere", desc := "(IILLackFerry$Strait;LLackFerry$Shores;)Z" } : Jvm.MethodName)) ∈ ab_G := ab_gm (tb_in5 (List.mem_of_getElem? (i := 46) rfl)) rfl
set_option maxRecDepth 100000 in
theorem kw_1007 : (Jvm.Cond.code ({ cls := "LackFerry$Sentence", name := "isSoThere", desc := "(IILLackFerry$Strait;LLackFerry$Shores;)Z" } : Jvm.MethodName) prog_7_method_13_code (4 : Nat) (Option.some Jvm.ClassFile.FieldType.boolean)) ∈ ab_G := ab_gm (tb_in5 (List.mem_of_getElem? (i := 47) rfl)) rfl
set_option maxRecDepth 100000 in
theorem kw_1008 : (Jvm.Cond.methodLink "LackFerry$Sentence" (98 : Nat) ({ cls := "LackFerry$Shores", name := "lackAt", desc := "(LLackFerry$Strait;I)I" } : Jvm.MethodName)) ∈ ab_G := ab_gm (tb_in5 (List.mem_of_getElem? (i := 48) rfl)) rfl
set_option maxRecDepth 100000 in
theorem kw_1009 : (Jvm.Cond.methodLink "LackFerry$Sentence" (107 : Nat) ({ cls := "LackFerry$Strait", name := "amountOf", desc := "(II)I" } : Jvm.MethodName)) ∈ ab_G := ab_gm (tb_in5 (List.mem_of_getElem? (i := 49) rfl)) rfl
set_option maxRecDepth 100000 in
theorem kw_1010 : (Jvm.Cond.methodLink "LackFerry$Sentence" (112 : Nat) ({ cls := "LackFerry$Shores", name := "isFalse", desc := "(LLackFerry$Strait;I)Z" } : Jvm.MethodName)) ∈ ab_G := ab_gm (tb_in5 (List.mem_of_getElem? (i := 50) rfl)) rfl
set_option maxRecDepth 100000 in
theorem kw_1011 : (Jvm.Cond.methodLink "LackFerry$Sentence" (91 : Nat) ({ cls := "LackFerry$Sentence", name := "valueOf", desc := "(IILLackFerry$Shores;)I" } : Jvm.MethodName)) ∈ ab_G := ab_gm (tb_in5 (List.mem_of_getElem? (i := 51) rfl)) rfl
set_option maxRecDepth 100000 in
theorem kw_1012 : (Jvm.Cond.static ({ cls := "LackFerry$Sentence", name := "valueOf", desc := "(IILLackFerry$Shores;)I" } : Jvm.MethodName)) ∈ ab_G := ab_gm (tb_in5 (List.mem_of_getElem? (i := 52) rfl)) rfl
set_option maxRecDepth 100000 in
theorem kw_1013 : (Jvm.Cond.code ({ cls := "LackFerry$Sentence", name := "valueOf", desc := "(IILLackFerry$Shores;)I" } : Jvm.MethodName) prog_7_method_14_code (3 : Nat) (Option.some Jvm.ClassFile.FieldType.int)) ∈ ab_G := ab_gm (tb_in5 (List.mem_of_getElem? (i := 53) rfl)) rfl
set_option maxRecDepth 100000 in
theorem kw_1014 : (Jvm.Cond.methodLink "LackFerry$Sentence" (95 : Nat) ({ cls := "LackFerry$Sentence", name := "isSoCompared", desc := "(III)Z" } : Jvm.MethodName)) ∈ ab_G := ab_gm (tb_in5 (List.mem_of_getElem? (i := 54) rfl)) rfl
set_option maxRecDepth 100000 in
theorem kw_1015 : (Jvm.Cond.static ({ cls := "LackFerry$Sentence", name := "isSoCompared", desc := "(III)Z" } : Jvm.MethodName)) ∈ ab_G := ab_gm (tb_in5 (List.mem_of_getElem? (i := 55) rfl)) rfl
set_option maxRecDepth 100000 in
theorem kw_1016 : (Jvm.Cond.code ({ cls := "LackFerry$Sentence", name := "isSoCompared", desc := "(III)Z" } : Jvm.MethodName) prog_7_method_15_code (3 : Nat) (Option.some Jvm.ClassFile.FieldType.boolean)) ∈ ab_G := ab_gm (tb_in5 (List.mem_of_getElem? (i := 56) rfl)) rfl
set_option maxRecDepth 100000 in
theorem kw_1017 : (Jvm.Cond.methodLink "LackFerryLaw" (179 : Nat) ({ cls := "LackFerry", name := "image", desc := "(I)Z" } : Jvm.MethodName)) ∈ ab_G := ab_gm (tb_in5 (List.mem_of_getElem? (i := 57) rfl)) rfl
set_option maxRecDepth 100000 in
theorem kw_1018 : (Jvm.Cond.instanceMethod ({ cls := "LackFerry", name := "image", desc := "(I)Z" } : Jvm.MethodName)) ∈ ab_G := ab_gm (tb_in5 (List.mem_of_getElem? (i := 58) rfl)) rfl
set_option maxRecDepth 100000 in
theorem kw_1019 : (Jvm.Cond.selects "LackFerry" ({ cls := "LackFerry", name := "image", desc := "(I)Z" } : Jvm.MethodName) ({ cls := "LackFerry", name := "image", desc := "(I)Z" } : Jvm.MethodName)) ∈ ab_G := ab_gm (tb_in5 (List.mem_of_getElem? (i := 59) rfl)) rfl
set_option maxRecDepth 100000 in
theorem kw_1020 : (Jvm.Cond.code ({ cls := "LackFerry", name := "image", desc := "(I)Z" } : Jvm.MethodName) prog_1_method_59_code (3 : Nat) (Option.some Jvm.ClassFile.FieldType.boolean)) ∈ ab_G := ab_gm (tb_in5 (List.mem_of_getElem? (i := 60) rfl)) rfl
set_option maxRecDepth 100000 in
theorem kw_1021 : (Jvm.Cond.instantiable "LackFerry$Image" (3 : Nat)) ∈ ab_G := ab_gm (tb_in5 (List.mem_of_getElem? (i := 61) rfl)) rfl
set_option maxRecDepth 100000 in
theorem kw_1023 : (Jvm.Cond.instanceMethod ({ cls := "LackFerry$Image", name := "<init>", desc := "()V" } : Jvm.MethodName)) ∈ ab_G := ab_gm (tb_in5 (List.mem_of_getElem? (i := 63) rfl)) rfl
set_option maxRecDepth 100000 in
theorem kw_1024 : (Jvm.Cond.code ({ cls := "LackFerry$Image", name := "<init>", desc := "()V" } : Jvm.MethodName) prog_5_method_1_code (1 : Nat) (Option.none : Option Jvm.ClassFile.FieldType)) ∈ ab_G := ab_gm (tb_in5 (List.mem_of_getElem? (i := 64) rfl)) rfl
set_option maxRecDepth 100000 in
theorem kw_1025 : (Jvm.Cond.methodLink "LackFerry$Image" (1 : Nat) ({ cls := "java/lang/Object", name := "<init>", desc := "()V" } : Jvm.MethodName)) ∈ ab_G := ab_gm (tb_in5 (List.mem_of_getElem? (i := 65) rfl)) rfl
set_option maxRecDepth 100000 in
theorem kw_1026 : (Jvm.Cond.classLink "LackFerry$Image" (7 : Nat) "LackFerry$Strait") ∈ ab_G := ab_gm (tb_in5 (List.mem_of_getElem? (i := 66) rfl)) rfl
set_option maxRecDepth 100000 in
theorem kw_1028 : (Jvm.Cond.classLink "LackFerry$Image" (16 : Nat) "LackFerry$Shores") ∈ ab_G := ab_gm (tb_in5 (List.mem_of_getElem? (i := 68) rfl)) rfl
set_option maxRecDepth 100000 in
theorem kw_1030 : (Jvm.Cond.classLink "LackFerry$Image" (23 : Nat) "LackFerry$Sentence") ∈ ab_G := ab_gm (tb_in5 (List.mem_of_getElem? (i := 70) rfl)) rfl
set_option maxRecDepth 100000 in
theorem kw_1032 : (Jvm.Cond.fieldLink "LackFerry$Image" (10 : Nat) "LackFerry$Image" "strait" "LLackFerry$Strait;") ∈ ab_G := ab_gm (tb_in5 (List.mem_of_getElem? (i := 72) rfl)) rfl
set_option maxRecDepth 100000 in
theorem kw_1033 : (Jvm.Cond.fieldLink "LackFerry" (373 : Nat) "LackFerry$Image" "strait" "LLackFerry$Strait;") ∈ ab_G := ab_gm (tb_in5 (List.mem_of_getElem? (i := 73) rfl)) rfl
set_option maxRecDepth 100000 in
theorem kw_1034 : (Jvm.Cond.fieldLink "LackFerry$Image" (19 : Nat) "LackFerry$Image" "shores" "LLackFerry$Shores;") ∈ ab_G := ab_gm (tb_in5 (List.mem_of_getElem? (i := 74) rfl)) rfl
set_option maxRecDepth 100000 in
theorem kw_1035 : (Jvm.Cond.fieldLink "LackFerry" (378 : Nat) "LackFerry$Image" "shores" "LLackFerry$Shores;") ∈ ab_G := ab_gm (tb_in5 (List.mem_of_getElem? (i := 75) rfl)) rfl
set_option maxRecDepth 100000 in
theorem kw_1036 : (Jvm.Cond.fieldLink "LackFerry$Image" (26 : Nat) "LackFerry$Image" "sentence" "LLackFerry$Sentence;") ∈ ab_G := ab_gm (tb_in5 (List.mem_of_getElem? (i := 76) rfl)) rfl
set_option maxRecDepth 100000 in
theorem kw_1037 : (Jvm.Cond.fieldLink "LackFerry" (381 : Nat) "LackFerry$Image" "sentence" "LLackFerry$Sentence;") ∈ ab_G := ab_gm (tb_in5 (List.mem_of_getElem? (i := 77) rfl)) rfl
set_option maxRecDepth 100000 in
theorem kw_1038 : (Jvm.Cond.laysFinal "LackFerry$Image" "LackFerry$Image" "strait" "LLackFerry$Strait;") ∈ ab_G := ab_gm (tb_in5 (List.mem_of_getElem? (i := 78) rfl)) rfl
set_option maxRecDepth 100000 in
theorem kw_1040 : (Jvm.Cond.laysFinal "LackFerry$Image" "LackFerry$Image" "shores" "LLackFerry$Shores;") ∈ ab_G := ab_gm (tb_in5 (List.mem_of_getElem? (i := 80) rfl)) rfl
set_option maxRecDepth 100000 in
theorem kw_1042 : (Jvm.Cond.laysFinal "LackFerry$Image" "LackFerry$Image" "sentence" "LLackFerry$Sentence;") ∈ ab_G := ab_gm (tb_in5 (List.mem_of_getElem? (i := 82) rfl)) rfl
set_option maxRecDepth 100000 in
theorem kw_1045 : (Jvm.Cond.methodLink "LackFerry" (376 : Nat) ({ cls := "LackFerry$Strait", name := "copyFrom", desc := "(LLackFerry$Strait;)V" } : Jvm.MethodName)) ∈ ab_G := ab_gm (tb_in5 (List.mem_of_getElem? (i := 85) rfl)) rfl
set_option maxRecDepth 100000 in
theorem kw_1046 : (Jvm.Cond.instanceMethod ({ cls := "LackFerry$Strait", name := "copyFrom", desc := "(LLackFerry$Strait;)V" } : Jvm.MethodName)) ∈ ab_G := ab_gm (tb_in5 (List.mem_of_getElem? (i := 86) rfl)) rfl
set_option maxRecDepth 100000 in
theorem kw_1047 : (Jvm.Cond.selects "LackFerry$Strait" ({ cls := "LackFerry$Strait", name := "copyFrom", desc := "(LLackFerry$Strait;)V" } : Jvm.MethodName) ({ cls := "LackFerry$Strait", name := "copyFrom", desc := "(LLackFerry$Strait;)V" } : Jvm.MethodName)) ∈ ab_G := ab_gm (tb_in5 (List.mem_of_getElem? (i := 87) rfl)) rfl
set_option maxRecDepth 100000 in
theorem kw_1048 : (Jvm.Cond.code ({ cls := "LackFerry$Strait", name := "copyFrom", desc := "(LLackFerry$Strait;)V" } : Jvm.MethodName) prog_9_method_5_code (2 : Nat) (Option.none : Option Jvm.ClassFile.FieldType)) ∈ ab_G := ab_gm (tb_in5 (List.mem_of_getElem? (i := 88) rfl)) rfl
set_option maxRecDepth 100000 in
theorem kw_1049 : (Jvm.Cond.methodLink "LackFerry$Strait" (50 : Nat) ({ cls := "java/lang/System", name := "arraycopy", desc := "(Ljava/lang/Object;ILjava/lang/Object;II)V" } : Jvm.MethodName)) ∈ ab_G := ab_gm (tb_in5 (List.mem_of_getElem? (i := 89) rfl)) rfl
set_option maxRecDepth 100000 in
theorem kw_1050 : (Jvm.Cond.methodLink "LackFerry" (384 : Nat) ({ cls := "LackFerry$Sentence", name := "copyFrom", desc := "(LLackFerry$Sentence;)V" } : Jvm.MethodName)) ∈ ab_G := ab_gm (tb_in5 (List.mem_of_getElem? (i := 90) rfl)) rfl
set_option maxRecDepth 100000 in
theorem kw_1051 : (Jvm.Cond.instanceMethod ({ cls := "LackFerry$Sentence", name := "copyFrom", desc := "(LLackFerry$Sentence;)V" } : Jvm.MethodName)) ∈ ab_G := ab_gm (tb_in5 (List.mem_of_getElem? (i := 91) rfl)) rfl
set_option maxRecDepth 100000 in
theorem kw_1052 : (Jvm.Cond.selects "LackFerry$Sentence" ({ cls := "LackFerry$Sentence", name := "copyFrom", desc := "(LLackFerry$Sentence;)V" } : Jvm.MethodName) ({ cls := "LackFerry$Sentence", name := "copyFrom", desc := "(LLackFerry$Sentence;)V" } : Jvm.MethodName)) ∈ ab_G := ab_gm (tb_in5 (List.mem_of_getElem? (i := 92) rfl)) rfl
set_option maxRecDepth 100000 in
theorem kw_1053 : (Jvm.Cond.code ({ cls := "LackFerry$Sentence", name := "copyFrom", desc := "(LLackFerry$Sentence;)V" } : Jvm.MethodName) prog_7_method_2_code (2 : Nat) (Option.none : Option Jvm.ClassFile.FieldType)) ∈ ab_G := ab_gm (tb_in5 (List.mem_of_getElem? (i := 93) rfl)) rfl
set_option maxRecDepth 100000 in
theorem kw_1054 : (Jvm.Cond.methodLink "LackFerry$Sentence" (21 : Nat) ({ cls := "java/lang/System", name := "arraycopy", desc := "(Ljava/lang/Object;ILjava/lang/Object;II)V" } : Jvm.MethodName)) ∈ ab_G := ab_gm (tb_in5 (List.mem_of_getElem? (i := 94) rfl)) rfl
set_option maxRecDepth 100000 in
theorem kw_1055 : (Jvm.Cond.methodLink "LackFerryLaw" (183 : Nat) ({ cls := "LackFerry", name := "restore", desc := "(I)Z" } : Jvm.MethodName)) ∈ ab_G := ab_gm (tb_in5 (List.mem_of_getElem? (i := 95) rfl)) rfl
set_option maxRecDepth 100000 in
theorem kw_1056 : (Jvm.Cond.instanceMethod ({ cls := "LackFerry", name := "restore", desc := "(I)Z" } : Jvm.MethodName)) ∈ ab_G := ab_gm (tb_in5 (List.mem_of_getElem? (i := 96) rfl)) rfl
set_option maxRecDepth 100000 in
theorem kw_1057 : (Jvm.Cond.selects "LackFerry" ({ cls := "LackFerry", name := "restore", desc := "(I)Z" } : Jvm.MethodName) ({ cls := "LackFerry", name := "restore", desc := "(I)Z" } : Jvm.MethodName)) ∈ ab_G := ab_gm (tb_in5 (List.mem_of_getElem? (i := 97) rfl)) rfl
set_option maxRecDepth 100000 in
theorem kw_1058 : (Jvm.Cond.code ({ cls := "LackFerry", name := "restore", desc := "(I)Z" } : Jvm.MethodName) prog_1_method_60_code (3 : Nat) (Option.some Jvm.ClassFile.FieldType.boolean)) ∈ ab_G := ab_gm (tb_in5 (List.mem_of_getElem? (i := 98) rfl)) rfl
set_option maxRecDepth 100000 in
theorem kw_1059 : (Jvm.Cond.methodLink "LackFerryLaw" (47 : Nat) ({ cls := "LackFerryLaw", name := "man", desc := "(LLackFerry;II[J)I" } : Jvm.MethodName)) ∈ ab_G := ab_gm (tb_in5 (List.mem_of_getElem? (i := 99) rfl)) rfl
set_option maxRecDepth 100000 in
theorem kw_1060 : (Jvm.Cond.static ({ cls := "LackFerryLaw", name := "man", desc := "(LLackFerry;II[J)I" } : Jvm.MethodName)) ∈ ab_G := ab_gm (tb_in5 (List.mem_of_getElem? (i := 100) rfl)) rfl
set_option maxRecDepth 100000 in
theorem kw_1061 : (Jvm.Cond.codeWith ({ cls := "LackFerryLaw", name := "man", desc := "(LLackFerry;II[J)I" } : Jvm.MethodName) method_3_code (5 : Nat) (Option.some Jvm.ClassFile.FieldType.int) [((0 : Nat), (10 : Nat), (13 : Nat), (13 : Nat))]) ∈ ab_G := ab_gm (tb_in5 (List.mem_of_getElem? (i := 101) rfl)) rfl
set_option maxRecDepth 100000 in
theorem kw_1062 : (Jvm.Cond.classLink "LackFerryLaw" (13 : Nat) "java/util/NoSuchElementException") ∈ ab_G := ab_gm (tb_in5 (List.mem_of_getElem? (i := 102) rfl)) rfl
set_option maxRecDepth 100000 in
theorem kw_1063 : (Jvm.Cond.methodLink "LackFerryLaw" (7 : Nat) ({ cls := "LackFerry", name := "man", desc := "(II)I" } : Jvm.MethodName)) ∈ ab_G := ab_gm (tb_in5 (List.mem_of_getElem? (i := 103) rfl)) rfl
set_option maxRecDepth 100000 in
theorem kw_1064 : (Jvm.Cond.instanceMethod ({ cls := "LackFerry", name := "man", desc := "(II)I" } : Jvm.MethodName)) ∈ ab_G := ab_gm (tb_in5 (List.mem_of_getElem? (i := 104) rfl)) rfl
set_option maxRecDepth 100000 in
theorem kw_1065 : (Jvm.Cond.selects "LackFerry" ({ cls := "LackFerry", name := "man", desc := "(II)I" } : Jvm.MethodName) ({ cls := "LackFerry", name := "man", desc := "(II)I" } : Jvm.MethodName)) ∈ ab_G := ab_gm (tb_in5 (List.mem_of_getElem? (i := 105) rfl)) rfl
set_option maxRecDepth 100000 in
theorem kw_1066 : (Jvm.Cond.code ({ cls := "LackFerry", name := "man", desc := "(II)I" } : Jvm.MethodName) prog_1_method_15_code (3 : Nat) (Option.some Jvm.ClassFile.FieldType.int)) ∈ ab_G := ab_gm (tb_in5 (List.mem_of_getElem? (i := 106) rfl)) rfl
set_option maxRecDepth 100000 in
theorem kw_1132 : (Jvm.Cond.methodLink "LackFerry" (199 : Nat) ({ cls := "LackFerry$Shores", name := "missedBy", desc := "(LLackFerry$Strait;I)I" } : Jvm.MethodName)) ∈ ab_G := ab_gm (tb_in5 (List.mem_of_getElem? (i := 172) rfl)) rfl
set_option maxRecDepth 100000 in
theorem kw_1133 : (Jvm.Cond.instanceMethod ({ cls := "LackFerry$Shores", name := "missedBy", desc := "(LLackFerry$Strait;I)I" } : Jvm.MethodName)) ∈ ab_G := ab_gm (tb_in5 (List.mem_of_getElem? (i := 173) rfl)) rfl
set_option maxRecDepth 100000 in
theorem kw_1134 : (Jvm.Cond.selects "LackFerry$Shores" ({ cls := "LackFerry$Shores", name := "missedBy", desc := "(LLackFerry$Strait;I)I" } : Jvm.MethodName) ({ cls := "LackFerry$Shores", name := "missedBy", desc := "(LLackFerry$Strait;I)I" } : Jvm.MethodName)) ∈ ab_G := ab_gm (tb_in5 (List.mem_of_getElem? (i := 174) rfl)) rfl
set_option maxRecDepth 100000 in
theorem kw_1135 : (Jvm.Cond.code ({ cls := "LackFerry$Shores", name := "missedBy", desc := "(LLackFerry$Strait;I)I" } : Jvm.MethodName) prog_8_method_15_code (5 : Nat) (Option.some Jvm.ClassFile.FieldType.int)) ∈ ab_G := ab_gm (tb_in5 (List.mem_of_getElem? (i := 175) rfl)) rfl
set_option maxRecDepth 100000 in
theorem kw_1137 : (Jvm.Cond.methodLink "LackFerryLaw" (23 : Nat) ({ cls := "LackFerryModel", name := "feed", desc := "(IIIII)I" } : Jvm.MethodName)) ∈ ab_G := ab_gm (tb_in5 (List.mem_of_getElem? (i := 177) rfl)) rfl
set_option maxRecDepth 100000 in
theorem kw_1138 : (Jvm.Cond.instanceMethod ({ cls := "LackFerryModel", name := "feed", desc := "(IIIII)I" } : Jvm.MethodName)) ∈ ab_G := ab_gm (tb_in5 (List.mem_of_getElem? (i := 178) rfl)) rfl
set_option maxRecDepth 100000 in
theorem kw_1139 : (Jvm.Cond.selects "LackFerryModel" ({ cls := "LackFerryModel", name := "feed", desc := "(IIIII)I" } : Jvm.MethodName) ({ cls := "LackFerryModel", name := "feed", desc := "(IIIII)I" } : Jvm.MethodName)) ∈ ab_G := ab_gm (tb_in5 (List.mem_of_getElem? (i := 179) rfl)) rfl
set_option maxRecDepth 100000 in
theorem kw_1140 : (Jvm.Cond.code ({ cls := "LackFerryModel", name := "feed", desc := "(IIIII)I" } : Jvm.MethodName) prog_13_method_3_code (6 : Nat) (Option.some Jvm.ClassFile.FieldType.int)) ∈ ab_G := ab_gm (tb_in5 (List.mem_of_getElem? (i := 180) rfl)) rfl
set_option maxRecDepth 100000 in
theorem kw_1141 : (Jvm.Cond.methodLink "LackFerryModel" (10 : Nat) ({ cls := "LackFerryModel", name := "four", desc := "(I)V" } : Jvm.MethodName)) ∈ ab_G := ab_gm (tb_in5 (List.mem_of_getElem? (i := 181) rfl)) rfl
set_option maxRecDepth 100000 in
theorem kw_1143 : (Jvm.Cond.instanceMethod ({ cls := "LackFerryModel", name := "four", desc := "(I)V" } : Jvm.MethodName)) ∈ ab_G := ab_gm (tb_in5 (List.mem_of_getElem? (i := 183) rfl)) rfl
set_option maxRecDepth 100000 in
theorem kw_1144 : (Jvm.Cond.instantiable "LackFerryModel" (43 : Nat)) ∈ ab_G := ab_gm (tb_in5 (List.mem_of_getElem? (i := 184) rfl)) rfl
set_option maxRecDepth 100000 in
theorem kw_1145 : (Jvm.Cond.code ({ cls := "LackFerryModel", name := "four", desc := "(I)V" } : Jvm.MethodName) prog_13_method_4_code (3 : Nat) (Option.none : Option Jvm.ClassFile.FieldType)) ∈ ab_G := ab_gm (tb_in5 (List.mem_of_getElem? (i := 185) rfl)) rfl
set_option maxRecDepth 100000 in
theorem kw_1146 : (Jvm.Cond.methodLink "LackFerryLaw" (28 : Nat) ({ cls := "LackFerryModel", name := "end", desc := "(I)Z" } : Jvm.MethodName)) ∈ ab_G := ab_gm (tb_in5 (List.mem_of_getElem? (i := 186) rfl)) rfl
set_option maxRecDepth 100000 in
theorem kw_1147 : (Jvm.Cond.instanceMethod ({ cls := "LackFerryModel", name := "end", desc := "(I)Z" } : Jvm.MethodName)) ∈ ab_G := ab_gm (tb_in5 (List.mem_of_getElem? (i := 187) rfl)) rfl
set_option maxRecDepth 100000 in
theorem kw_1148 : (Jvm.Cond.selects "LackFerryModel" ({ cls := "LackFerryModel", name := "end", desc := "(I)Z" } : Jvm.MethodName) ({ cls := "LackFerryModel", name := "end", desc := "(I)Z" } : Jvm.MethodName)) ∈ ab_G := ab_gm (tb_in5 (List.mem_of_getElem? (i := 188) rfl)) rfl
set_option maxRecDepth 100000 in
theorem kw_1149 : (Jvm.Cond.code ({ cls := "LackFerryModel", name := "end", desc := "(I)Z" } : Jvm.MethodName) prog_13_method_5_code (2 : Nat) (Option.some Jvm.ClassFile.FieldType.boolean)) ∈ ab_G := ab_gm (tb_in5 (List.mem_of_getElem? (i := 189) rfl)) rfl
set_option maxRecDepth 100000 in
theorem kw_1150 : (Jvm.Cond.classLink "LackFerryLaw" (16 : Nat) "LackFerryModel") ∈ ab_G := ab_gm (tb_in5 (List.mem_of_getElem? (i := 190) rfl)) rfl
set_option maxRecDepth 100000 in
theorem kw_1151 : (Jvm.Cond.methodLink "LackFerryLaw" (18 : Nat) ({ cls := "LackFerryModel", name := "<init>", desc := "()V" } : Jvm.MethodName)) ∈ ab_G := ab_gm (tb_in5 (List.mem_of_getElem? (i := 191) rfl)) rfl
set_option maxRecDepth 100000 in
theorem kw_1152 : (Jvm.Cond.instanceMethod ({ cls := "LackFerryModel", name := "<init>", desc := "()V" } : Jvm.MethodName)) ∈ ab_G := ab_gm (tb_in5 (List.mem_of_getElem? (i := 192) rfl)) rfl
set_option maxRecDepth 100000 in
theorem kw_1153 : (Jvm.Cond.code ({ cls := "LackFerryModel", name := "<init>", desc := "()V" } : Jvm.MethodName) prog_13_method_12_code (1 : Nat) (Option.none : Option Jvm.ClassFile.FieldType)) ∈ ab_G := ab_gm (tb_in5 (List.mem_of_getElem? (i := 193) rfl)) rfl
set_option maxRecDepth 100000 in
theorem kw_1154 : (Jvm.Cond.methodLink "LackFerryModel" (27 : Nat) ({ cls := "java/lang/Object", name := "<init>", desc := "()V" } : Jvm.MethodName)) ∈ ab_G := ab_gm (tb_in5 (List.mem_of_getElem? (i := 194) rfl)) rfl
set_option maxRecDepth 100000 in
theorem kw_1155 : (Jvm.Cond.constantLong "LackFerryModel" (87 : Nat) (1819238756 : Int64)) ∈ ab_G := ab_gm (tb_in5 (List.mem_of_getElem? (i := 195) rfl)) rfl
set_option maxRecDepth 100000 in
theorem kw_1156 : (Jvm.Cond.constantLong "LackFerryModel" (89 : Nat) (1735356260 : Int64)) ∈ ab_G := ab_gm (tb_in5 (List.mem_of_getElem? (i := 196) rfl)) rfl
set_option maxRecDepth 100000 in
theorem kw_1157 : (Jvm.Cond.constantLong "LackFerryModel" (91 : Nat) (495874696043 : Int64)) ∈ ab_G := ab_gm (tb_in5 (List.mem_of_getElem? (i := 197) rfl)) rfl
set_option maxRecDepth 100000 in
theorem kw_1158 : (Jvm.Cond.constantLong "LackFerryModel" (93 : Nat) (512735736947 : Int64)) ∈ ab_G := ab_gm (tb_in5 (List.mem_of_getElem? (i := 198) rfl)) rfl
set_option maxRecDepth 100000 in
theorem kw_1159 : (Jvm.Cond.constantLong "LackFerryModel" (95 : Nat) (1700885619 : Int64)) ∈ ab_G := ab_gm (tb_in5 (List.mem_of_getElem? (i := 199) rfl)) rfl
set_option maxRecDepth 100000 in
theorem kw_1160 : (Jvm.Cond.constantLong "LackFerryModel" (97 : Nat) (469785863539 : Int64)) ∈ ab_G := ab_gm (tb_in5 (List.mem_of_getElem? (i := 200) rfl)) rfl
set_option maxRecDepth 100000 in
theorem kw_1161 : (Jvm.Cond.constantLong "LackFerryModel" (99 : Nat) (7168366 : Int64)) ∈ ab_G := ab_gm (tb_in5 (List.mem_of_getElem? (i := 201) rfl)) rfl
set_option maxRecDepth 100000 in
theorem kw_1162 : (Jvm.Cond.constantLong "LackFerryModel" (101 : Nat) (120299675936115 : Int64)) ∈ ab_G := ab_gm (tb_in5 (List.mem_of_getElem? (i := 202) rfl)) rfl
set_option maxRecDepth 100000 in
theorem kw_1163 : (Jvm.Cond.constantLong "LackFerryModel" (103 : Nat) (114827585545331 : Int64)) ∈ ab_G := ab_gm (tb_in5 (List.mem_of_getElem? (i := 203) rfl)) rfl
set_option maxRecDepth 100000 in
theorem kw_1164 : (Jvm.Cond.constantLong "LackFerryModel" (105 : Nat) (422541682035 : Int64)) ∈ ab_G := ab_gm (tb_in5 (List.mem_of_getElem? (i := 204) rfl)) rfl
set_option maxRecDepth 100000 in
theorem kw_1165 : (Jvm.Cond.constantLong "LackFerryModel" (107 : Nat) (131260432541043 : Int64)) ∈ ab_G := ab_gm (tb_in5 (List.mem_of_getElem? (i := 205) rfl)) rfl
set_option maxRecDepth 100000 in
theorem kw_1166 : (Jvm.Cond.constantLong "LackFerryModel" (109 : Nat) (1684628851 : Int64)) ∈ ab_G := ab_gm (tb_in5 (List.mem_of_getElem? (i := 206) rfl)) rfl
set_option maxRecDepth 100000 in
theorem kw_1167 : (Jvm.Cond.constantLong "LackFerryModel" (111 : Nat) (6578553 : Int64)) ∈ ab_G := ab_gm (tb_in5 (List.mem_of_getElem? (i := 207) rfl)) rfl
set_option maxRecDepth 100000 in
theorem kw_1168 : (Jvm.Cond.constantLong "LackFerryModel" (113 : Nat) (28530 : Int64)) ∈ ab_G := ab_gm (tb_in5 (List.mem_of_getElem? (i := 208) rfl)) rfl
set_option maxRecDepth 100000 in
theorem kw_1169 : (Jvm.Cond.constantLong "LackFerryModel" (115 : Nat) (6385252 : Int64)) ∈ ab_G := ab_gm (tb_in5 (List.mem_of_getElem? (i := 209) rfl)) rfl
set_option maxRecDepth 100000 in
theorem kw_1170 : (Jvm.Cond.constantLong "LackFerryModel" (117 : Nat) (7237492 : Int64)) ∈ ab_G := ab_gm (tb_in5 (List.mem_of_getElem? (i := 210) rfl)) rfl
set_option maxRecDepth 100000 in
theorem kw_1171 : (Jvm.Cond.constantLong "LackFerryModel" (119 : Nat) (119165535610212 : Int64)) ∈ ab_G := ab_gm (tb_in5 (List.mem_of_getElem? (i := 211) rfl)) rfl
set_option maxRecDepth 100000 in
theorem kw_1172 : (Jvm.Cond.constantLong "LackFerryModel" (121 : Nat) (29395861899601252 : Int64)) ∈ ab_G := ab_gm (tb_in5 (List.mem_of_getElem? (i := 212) rfl)) rfl
set_option maxRecDepth 100000 in
theorem kw_1173 : (Jvm.Cond.constantLong "LackFerryModel" (123 : Nat) (1835099237 : Int64)) ∈ ab_G := ab_gm (tb_in5 (List.mem_of_getElem? (i := 213) rfl)) rfl
set_option maxRecDepth 100000 in
theorem kw_1174 : (Jvm.Cond.constantLong "LackFerryModel" (125 : Nat) (435426714990 : Int64)) ∈ ab_G := ab_gm (tb_in5 (List.mem_of_getElem? (i := 214) rfl)) rfl
set_option maxRecDepth 100000 in
theorem kw_1175 : (Jvm.Cond.constantLong "LackFerryModel" (127 : Nat) (439721161573 : Int64)) ∈ ab_G := ab_gm (tb_in5 (List.mem_of_getElem? (i := 215) rfl)) rfl
set_option maxRecDepth 100000 in
theorem kw_1176 : (Jvm.Cond.constantLong "LackFerryModel" (129 : Nat) (1852137842 : Int64)) ∈ ab_G := ab_gm (tb_in5 (List.mem_of_getElem? (i := 216) rfl)) rfl
set_option maxRecDepth 100000 in
theorem kw_1177 : (Jvm.Cond.constantLong "LackFerryModel" (131 : Nat) (6709618 : Int64)) ∈ ab_G := ab_gm (tb_in5 (List.mem_of_getElem? (i := 217) rfl)) rfl
set_option maxRecDepth 100000 in
theorem kw_1178 : (Jvm.Cond.constantLong "LackFerryModel" (133 : Nat) (27991845698233700 : Int64)) ∈ ab_G := ab_gm (tb_in5 (List.mem_of_getElem? (i := 218) rfl)) rfl
set_option maxRecDepth 100000 in
theorem kw_1179 : (Jvm.Cond.constantLong "LackFerryModel" (135 : Nat) (121450625394034 : Int64)) ∈ ab_G := ab_gm (tb_in5 (List.mem_of_getElem? (i := 219) rfl)) rfl
set_option maxRecDepth 100000 in
theorem kw_1180 : (Jvm.Cond.fieldLink "LackFerryModel" (1 : Nat) "LackFerryModel" "thrown" "I") ∈ ab_G := ab_gm (tb_in5 (List.mem_of_getElem? (i := 220) rfl)) rfl
set_option maxRecDepth 100000 in
theorem kw_1181 : (Jvm.Cond.fieldLink "LackFerryModel" (14 : Nat) "LackFerryModel" "tape" "[B") ∈ ab_G := ab_gm (tb_in5 (List.mem_of_getElem? (i := 221) rfl)) rfl
set_option maxRecDepth 100000 in
theorem kw_1182 : (Jvm.Cond.fieldLink "LackFerryModel" (7 : Nat) "LackFerryModel" "length" "I") ∈ ab_G := ab_gm (tb_in5 (List.mem_of_getElem? (i := 222) rfl)) rfl
set_option maxRecDepth 100000 in
theorem kw_1183 : (Jvm.Cond.fieldLink "LackFerryModel" (18 : Nat) "LackFerryModel" "size" "I") ∈ ab_G := ab_gm (tb_in5 (List.mem_of_getElem? (i := 223) rfl)) rfl
set_option maxRecDepth 100000 in
theorem kw_1184 : (Jvm.Cond.fieldLink "LackFerryModel" (21 : Nat) "LackFerryModel" "p" "I") ∈ ab_G := ab_gm (tb_in5 (List.mem_of_getElem? (i := 224) rfl)) rfl
set_option maxRecDepth 100000 in
theorem kw_1185 : (Jvm.Cond.fieldLink "LackFerryModel" (24 : Nat) "LackFerryModel" "limit" "I") ∈ ab_G := ab_gm (tb_in5 (List.mem_of_getElem? (i := 225) rfl)) rfl
set_option maxRecDepth 100000 in
theorem kw_1186 : (Jvm.Cond.fieldLink "LackFerryModel" (33 : Nat) "LackFerryModel" "s" "[I") ∈ ab_G := ab_gm (tb_in5 (List.mem_of_getElem? (i := 226) rfl)) rfl
set_option maxRecDepth 100000 in
theorem kw_1187 : (Jvm.Cond.fieldLink "LackFerryModel" (37 : Nat) "LackFerryModel" "h" "[I") ∈ ab_G := ab_gm (tb_in5 (List.mem_of_getElem? (i := 227) rfl)) rfl
set_option maxRecDepth 100000 in
theorem kw_1188 : (Jvm.Cond.fieldLink "LackFerryModel" (40 : Nat) "LackFerryModel" "read" "[I") ∈ ab_G := ab_gm (tb_in5 (List.mem_of_getElem? (i := 228) rfl)) rfl
set_option maxRecDepth 100000 in
theorem kw_1189 : (Jvm.Cond.fieldLink "LackFerryModel" (43 : Nat) "LackFerryModel" "names" "[J") ∈ ab_G := ab_gm (tb_in5 (List.mem_of_getElem? (i := 229) rfl)) rfl
set_option maxRecDepth 100000 in
theorem kw_1190 : (Jvm.Cond.fieldLink "LackFerryModel" (47 : Nat) "LackFerryModel" "reserved" "[J") ∈ ab_G := ab_gm (tb_in5 (List.mem_of_getElem? (i := 230) rfl)) rfl
set_option maxRecDepth 100000 in
theorem kw_1191 : (Jvm.Cond.fieldLink "LackFerryModel" (147 : Nat) "LackFerryModel" "token" "I") ∈ ab_G := ab_gm (tb_in5 (List.mem_of_getElem? (i := 231) rfl)) rfl
set_option maxRecDepth 100000 in
theorem kw_1192 : (Jvm.Cond.fieldLink "LackFerryModel" (141 : Nat) "LackFerryModel" "at" "I") ∈ ab_G := ab_gm (tb_in5 (List.mem_of_getElem? (i := 232) rfl)) rfl
set_option maxRecDepth 100000 in
theorem kw_1193 : (Jvm.Cond.fieldLink "LackFerryModel" (144 : Nat) "LackFerryModel" "span" "I") ∈ ab_G := ab_gm (tb_in5 (List.mem_of_getElem? (i := 233) rfl)) rfl
set_option maxRecDepth 100000 in
theorem kw_1194 : (Jvm.Cond.fieldLink "LackFerryModel" (157 : Nat) "LackFerryModel" "number" "I") ∈ ab_G := ab_gm (tb_in5 (List.mem_of_getElem? (i := 234) rfl)) rfl
set_option maxRecDepth 100000 in
theorem kw_1195 : (Jvm.Cond.fieldLink "LackFerryModel" (164 : Nat) "LackFerryModel" "fault" "I") ∈ ab_G := ab_gm (tb_in5 (List.mem_of_getElem? (i := 235) rfl)) rfl
set_option maxRecDepth 100000 in
theorem kw_1196 : (Jvm.Cond.fieldLink "LackFerryModel" (167 : Nat) "LackFerryModel" "faultAt" "I") ∈ ab_G := ab_gm (tb_in5 (List.mem_of_getElem? (i := 236) rfl)) rfl
set_option maxRecDepth 100000 in
theorem kw_1197 : (Jvm.Cond.fieldLink "LackFerryModel" (160 : Nat) "LackFerryModel" "word" "J") ∈ ab_G := ab_gm (tb_in5 (List.mem_of_getElem? (i := 237) rfl)) rfl
set_option maxRecDepth 100000 in
theorem kw_1198 : (Jvm.Cond.fieldLink "LackFerryModel" (183 : Nat) "LackFerryModel" "got" "I") ∈ ab_G := ab_gm (tb_in5 (List.mem_of_getElem? (i := 238) rfl)) rfl
set_option maxRecDepth 100000 in
theorem kw_1199 : (Jvm.Cond.fieldLink "LackFerryModel" (227 : Nat) "LackFerryModel" "lines" "I") ∈ ab_G := ab_gm (tb_in5 (List.mem_of_getElem? (i := 239) rfl)) rfl
set_option maxRecDepth 100000 in
theorem kw_1200 : (Jvm.Cond.fieldLink "LackFerryModel" (205 : Nat) "LackFerryModel" "hasLoad" "Z") ∈ ab_G := ab_gm (tb_in6 (List.mem_of_getElem? (i := 0) rfl)) rfl
set_option maxRecDepth 100000 in
theorem kw_1201 : (Jvm.Cond.fieldLink "LackFerryModel" (50 : Nat) "LackFerryModel" "toldOnce" "[I") ∈ ab_G := ab_gm (tb_in6 (List.mem_of_getElem? (i := 1) rfl)) rfl
set_option maxRecDepth 100000 in
theorem kw_1202 : (Jvm.Cond.fieldLink "LackFerryModel" (283 : Nat) "LackFerryModel" "room" "I") ∈ ab_G := ab_gm (tb_in6 (List.mem_of_getElem? (i := 2) rfl)) rfl
set_option maxRecDepth 100000 in
theorem kw_1203 : (Jvm.Cond.fieldLink "LackFerryModel" (53 : Nat) "LackFerryModel" "undone" "[I") ∈ ab_G := ab_gm (tb_in6 (List.mem_of_getElem? (i := 3) rfl)) rfl
set_option maxRecDepth 100000 in
theorem kw_1204 : (Jvm.Cond.fieldLink "LackFerryModel" (56 : Nat) "LackFerryModel" "before" "[I") ∈ ab_G := ab_gm (tb_in6 (List.mem_of_getElem? (i := 4) rfl)) rfl
set_option maxRecDepth 100000 in
theorem kw_1205 : (Jvm.Cond.fieldLink "LackFerryModel" (236 : Nat) "LackFerryModel" "undoMany" "I") ∈ ab_G := ab_gm (tb_in6 (List.mem_of_getElem? (i := 5) rfl)) rfl
set_option maxRecDepth 100000 in
theorem kw_1206 : (Jvm.Cond.fieldLink "LackFerryModel" (59 : Nat) "LackFerryModel" "rows" "[I") ∈ ab_G := ab_gm (tb_in6 (List.mem_of_getElem? (i := 6) rfl)) rfl
set_option maxRecDepth 100000 in
theorem kw_1207 : (Jvm.Cond.fieldLink "LackFerryModel" (62 : Nat) "LackFerryModel" "priceRow" "[I") ∈ ab_G := ab_gm (tb_in6 (List.mem_of_getElem? (i := 7) rfl)) rfl
set_option maxRecDepth 100000 in
theorem kw_1208 : (Jvm.Cond.fieldLink "LackFerryModel" (65 : Nat) "LackFerryModel" "priceGoods" "I") ∈ ab_G := ab_gm (tb_in6 (List.mem_of_getElem? (i := 8) rfl)) rfl
set_option maxRecDepth 100000 in
theorem kw_1209 : (Jvm.Cond.fieldLink "LackFerryModel" (335 : Nat) "LackFerryModel" "seed" "I") ∈ ab_G := ab_gm (tb_in6 (List.mem_of_getElem? (i := 9) rfl)) rfl
set_option maxRecDepth 100000 in
theorem kw_1210 : (Jvm.Cond.fieldLink "LackFerryModel" (348 : Nat) "LackFerryModel" "told" "I") ∈ ab_G := ab_gm (tb_in6 (List.mem_of_getElem? (i := 10) rfl)) rfl
set_option maxRecDepth 100000 in
theorem kw_1211 : (Jvm.Cond.fieldLink "LackFerryModel" (68 : Nat) "LackFerryModel" "loggedAt" "[I") ∈ ab_G := ab_gm (tb_in6 (List.mem_of_getElem? (i := 11) rfl)) rfl
set_option maxRecDepth 100000 in
theorem kw_1212 : (Jvm.Cond.fieldLink "LackFerryModel" (358 : Nat) "LackFerryModel" "hasLogged" "Z") ∈ ab_G := ab_gm (tb_in6 (List.mem_of_getElem? (i := 12) rfl)) rfl
set_option maxRecDepth 100000 in
theorem kw_1213 : (Jvm.Cond.fieldLink "LackFerryModel" (71 : Nat) "LackFerryModel" "stack" "[I") ∈ ab_G := ab_gm (tb_in6 (List.mem_of_getElem? (i := 13) rfl)) rfl
set_option maxRecDepth 100000 in
theorem kw_1214 : (Jvm.Cond.fieldLink "LackFerryModel" (361 : Nat) "LackFerryModel" "codes" "I") ∈ ab_G := ab_gm (tb_in6 (List.mem_of_getElem? (i := 14) rfl)) rfl
set_option maxRecDepth 100000 in
theorem kw_1215 : (Jvm.Cond.fieldLink "LackFerryModel" (377 : Nat) "LackFerryModel" "ones" "I") ∈ ab_G := ab_gm (tb_in6 (List.mem_of_getElem? (i := 15) rfl)) rfl
set_option maxRecDepth 100000 in
theorem kw_1216 : (Jvm.Cond.fieldLink "LackFerryModel" (364 : Nat) "LackFerryModel" "top" "I") ∈ ab_G := ab_gm (tb_in6 (List.mem_of_getElem? (i := 16) rfl)) rfl
set_option maxRecDepth 100000 in
theorem kw_1217 : (Jvm.Cond.fieldLink "LackFerryModel" (371 : Nat) "LackFerryModel" "deep" "I") ∈ ab_G := ab_gm (tb_in6 (List.mem_of_getElem? (i := 17) rfl)) rfl
set_option maxRecDepth 100000 in
theorem kw_1218 : (Jvm.Cond.fieldLink "LackFerryModel" (380 : Nat) "LackFerryModel" "isWhole" "Z") ∈ ab_G := ab_gm (tb_in6 (List.mem_of_getElem? (i := 18) rfl)) rfl
set_option maxRecDepth 100000 in
theorem kw_1219 : (Jvm.Cond.fieldLink "LackFerryModel" (74 : Nat) "LackFerryModel" "truths" "[Z") ∈ ab_G := ab_gm (tb_in6 (List.mem_of_getElem? (i := 19) rfl)) rfl
set_option maxRecDepth 100000 in
theorem kw_1220 : (Jvm.Cond.fieldLink "LackFerryModel" (78 : Nat) "LackFerryModel" "kept" "[I") ∈ ab_G := ab_gm (tb_in6 (List.mem_of_getElem? (i := 20) rfl)) rfl
set_option maxRecDepth 100000 in
theorem kw_1221 : (Jvm.Cond.fieldLink "LackFerryModel" (81 : Nat) "LackFerryModel" "namesKept" "[J") ∈ ab_G := ab_gm (tb_in6 (List.mem_of_getElem? (i := 21) rfl)) rfl
set_option maxRecDepth 100000 in
theorem kw_1222 : (Jvm.Cond.fieldLink "LackFerryModel" (84 : Nat) "LackFerryModel" "areKept" "[Z") ∈ ab_G := ab_gm (tb_in6 (List.mem_of_getElem? (i := 22) rfl)) rfl
set_option maxRecDepth 100000 in
theorem kw_1223 : (Jvm.Cond.lays "LackFerryModel" "LackFerryModel" "thrown" "I") ∈ ab_G := ab_gm (tb_in6 (List.mem_of_getElem? (i := 23) rfl)) rfl
set_option maxRecDepth 100000 in
theorem kw_1225 : (Jvm.Cond.laysFinal "LackFerryModel" "LackFerryModel" "tape" "[B") ∈ ab_G := ab_gm (tb_in6 (List.mem_of_getElem? (i := 25) rfl)) rfl
set_option maxRecDepth 100000 in
theorem kw_1227 : (Jvm.Cond.lays "LackFerryModel" "LackFerryModel" "length" "I") ∈ ab_G := ab_gm (tb_in6 (List.mem_of_getElem? (i := 27) rfl)) rfl
set_option maxRecDepth 100000 in
theorem kw_1229 : (Jvm.Cond.lays "LackFerryModel" "LackFerryModel" "size" "I") ∈ ab_G := ab_gm (tb_in6 (List.mem_of_getElem? (i := 29) rfl)) rfl
set_option maxRecDepth 100000 in
theorem kw_1231 : (Jvm.Cond.lays "LackFerryModel" "LackFerryModel" "p" "I") ∈ ab_G := ab_gm (tb_in6 (List.mem_of_getElem? (i := 31) rfl)) rfl
set_option maxRecDepth 100000 in
theorem kw_1233 : (Jvm.Cond.lays "LackFerryModel" "LackFerryModel" "limit" "I") ∈ ab_G := ab_gm (tb_in6 (List.mem_of_getElem? (i := 33) rfl)) rfl
set_option maxRecDepth 100000 in
theorem kw_1235 : (Jvm.Cond.laysFinal "LackFerryModel" "LackFerryModel" "s" "[I") ∈ ab_G := ab_gm (tb_in6 (List.mem_of_getElem? (i := 35) rfl)) rfl
set_option maxRecDepth 100000 in
theorem kw_1237 : (Jvm.Cond.laysFinal "LackFerryModel" "LackFerryModel" "h" "[I") ∈ ab_G := ab_gm (tb_in6 (List.mem_of_getElem? (i := 37) rfl)) rfl
set_option maxRecDepth 100000 in
theorem kw_1239 : (Jvm.Cond.laysFinal "LackFerryModel" "LackFerryModel" "read" "[I") ∈ ab_G := ab_gm (tb_in6 (List.mem_of_getElem? (i := 39) rfl)) rfl
set_option maxRecDepth 100000 in
theorem kw_1241 : (Jvm.Cond.laysFinal "LackFerryModel" "LackFerryModel" "names" "[J") ∈ ab_G := ab_gm (tb_in6 (List.mem_of_getElem? (i := 41) rfl)) rfl
set_option maxRecDepth 100000 in
theorem kw_1243 : (Jvm.Cond.laysFinal "LackFerryModel" "LackFerryModel" "reserved" "[J") ∈ ab_G := ab_gm (tb_in6 (List.mem_of_getElem? (i := 43) rfl)) rfl
set_option maxRecDepth 100000 in
theorem kw_1245 : (Jvm.Cond.lays "LackFerryModel" "LackFerryModel" "token" "I") ∈ ab_G := ab_gm (tb_in6 (List.mem_of_getElem? (i := 45) rfl)) rfl
set_option maxRecDepth 100000 in
theorem kw_1247 : (Jvm.Cond.lays "LackFerryModel" "LackFerryModel" "at" "I") ∈ ab_G := ab_gm (tb_in6 (List.mem_of_getElem? (i := 47) rfl)) rfl
set_option maxRecDepth 100000 in
theorem kw_1249 : (Jvm.Cond.lays "LackFerryModel" "LackFerryModel" "span" "I") ∈ ab_G := ab_gm (tb_in6 (List.mem_of_getElem? (i := 49) rfl)) rfl
set_option maxRecDepth 100000 in
theorem kw_1251 : (Jvm.Cond.lays "LackFerryModel" "LackFerryModel" "number" "I") ∈ ab_G := ab_gm (tb_in6 (List.mem_of_getElem? (i := 51) rfl)) rfl
set_option maxRecDepth 100000 in
theorem kw_1253 : (Jvm.Cond.lays "LackFerryModel" "LackFerryModel" "fault" "I") ∈ ab_G := ab_gm (tb_in6 (List.mem_of_getElem? (i := 53) rfl)) rfl
set_option maxRecDepth 100000 in
theorem kw_1255 : (Jvm.Cond.lays "LackFerryModel" "LackFerryModel" "faultAt" "I") ∈ ab_G := ab_gm (tb_in6 (List.mem_of_getElem? (i := 55) rfl)) rfl
set_option maxRecDepth 100000 in
theorem kw_1257 : (Jvm.Cond.lays "LackFerryModel" "LackFerryModel" "word" "J") ∈ ab_G := ab_gm (tb_in6 (List.mem_of_getElem? (i := 57) rfl)) rfl
set_option maxRecDepth 100000 in
theorem kw_1259 : (Jvm.Cond.lays "LackFerryModel" "LackFerryModel" "got" "I") ∈ ab_G := ab_gm (tb_in6 (List.mem_of_getElem? (i := 59) rfl)) rfl
set_option maxRecDepth 100000 in
theorem kw_1261 : (Jvm.Cond.lays "LackFerryModel" "LackFerryModel" "lines" "I") ∈ ab_G := ab_gm (tb_in6 (List.mem_of_getElem? (i := 61) rfl)) rfl
set_option maxRecDepth 100000 in
theorem kw_1263 : (Jvm.Cond.lays "LackFerryModel" "LackFerryModel" "hasLoad" "Z") ∈ ab_G := ab_gm (tb_in6 (List.mem_of_getElem? (i := 63) rfl)) rfl
set_option maxRecDepth 100000 in
theorem kw_1265 : (Jvm.Cond.laysFinal "LackFerryModel" "LackFerryModel" "toldOnce" "[I") ∈ ab_G := ab_gm (tb_in6 (List.mem_of_getElem? (i := 65) rfl)) rfl
set_option maxRecDepth 100000 in
theorem kw_1267 : (Jvm.Cond.lays "LackFerryModel" "LackFerryModel" "room" "I") ∈ ab_G := ab_gm (tb_in6 (List.mem_of_getElem? (i := 67) rfl)) rfl
set_option maxRecDepth 100000 in
theorem kw_1269 : (Jvm.Cond.laysFinal "LackFerryModel" "LackFerryModel" "undone" "[I") ∈ ab_G := ab_gm (tb_in6 (List.mem_of_getElem? (i := 69) rfl)) rfl
set_option maxRecDepth 100000 in
theorem kw_1271 : (Jvm.Cond.laysFinal "LackFerryModel" "LackFerryModel" "before" "[I") ∈ ab_G := ab_gm (tb_in6 (List.mem_of_getElem? (i := 71) rfl)) rfl
set_option maxRecDepth 100000 in
theorem kw_1273 : (Jvm.Cond.lays "LackFerryModel" "LackFerryModel" "undoMany" "I") ∈ ab_G := ab_gm (tb_in6 (List.mem_of_getElem? (i := 73) rfl)) rfl
set_option maxRecDepth 100000 in
theorem kw_1275 : (Jvm.Cond.laysFinal "LackFerryModel" "LackFerryModel" "rows" "[I") ∈ ab_G := ab_gm (tb_in6 (List.mem_of_getElem? (i := 75) rfl)) rfl
set_option maxRecDepth 100000 in
theorem kw_1277 : (Jvm.Cond.laysFinal "LackFerryModel" "LackFerryModel" "priceRow" "[I") ∈ ab_G := ab_gm (tb_in6 (List.mem_of_getElem? (i := 77) rfl)) rfl
set_option maxRecDepth 100000 in
theorem kw_1279 : (Jvm.Cond.lays "LackFerryModel" "LackFerryModel" "priceGoods" "I") ∈ ab_G := ab_gm (tb_in6 (List.mem_of_getElem? (i := 79) rfl)) rfl
set_option maxRecDepth 100000 in
theorem kw_1281 : (Jvm.Cond.lays "LackFerryModel" "LackFerryModel" "seed" "I") ∈ ab_G := ab_gm (tb_in6 (List.mem_of_getElem? (i := 81) rfl)) rfl
set_option maxRecDepth 100000 in
theorem kw_1283 : (Jvm.Cond.lays "LackFerryModel" "LackFerryModel" "told" "I") ∈ ab_G := ab_gm (tb_in6 (List.mem_of_getElem? (i := 83) rfl)) rfl
set_option maxRecDepth 100000 in
theorem kw_1285 : (Jvm.Cond.laysFinal "LackFerryModel" "LackFerryModel" "loggedAt" "[I") ∈ ab_G := ab_gm (tb_in6 (List.mem_of_getElem? (i := 85) rfl)) rfl
set_option maxRecDepth 100000 in
theorem kw_1287 : (Jvm.Cond.lays "LackFerryModel" "LackFerryModel" "hasLogged" "Z") ∈ ab_G := ab_gm (tb_in6 (List.mem_of_getElem? (i := 87) rfl)) rfl
set_option maxRecDepth 100000 in
theorem kw_1289 : (Jvm.Cond.laysFinal "LackFerryModel" "LackFerryModel" "stack" "[I") ∈ ab_G := ab_gm (tb_in6 (List.mem_of_getElem? (i := 89) rfl)) rfl
set_option maxRecDepth 100000 in
theorem kw_1291 : (Jvm.Cond.lays "LackFerryModel" "LackFerryModel" "codes" "I") ∈ ab_G := ab_gm (tb_in6 (List.mem_of_getElem? (i := 91) rfl)) rfl
set_option maxRecDepth 100000 in
theorem kw_1293 : (Jvm.Cond.lays "LackFerryModel" "LackFerryModel" "ones" "I") ∈ ab_G := ab_gm (tb_in6 (List.mem_of_getElem? (i := 93) rfl)) rfl
set_option maxRecDepth 100000 in
theorem kw_1295 : (Jvm.Cond.lays "LackFerryModel" "LackFerryModel" "top" "I") ∈ ab_G := ab_gm (tb_in6 (List.mem_of_getElem? (i := 95) rfl)) rfl
set_option maxRecDepth 100000 in
theorem kw_1297 : (Jvm.Cond.lays "LackFerryModel" "LackFerryModel" "deep" "I") ∈ ab_G := ab_gm (tb_in6 (List.mem_of_getElem? (i := 97) rfl)) rfl
set_option maxRecDepth 100000 in
theorem kw_1299 : (Jvm.Cond.lays "LackFerryModel" "LackFerryModel" "isWhole" "Z") ∈ ab_G := ab_gm (tb_in6 (List.mem_of_getElem? (i := 99) rfl)) rfl
set_option maxRecDepth 100000 in
theorem kw_1301 : (Jvm.Cond.laysFinal "LackFerryModel" "LackFerryModel" "truths" "[Z") ∈ ab_G := ab_gm (tb_in6 (List.mem_of_getElem? (i := 101) rfl)) rfl
set_option maxRecDepth 100000 in
theorem kw_1303 : (Jvm.Cond.laysFinal "LackFerryModel" "LackFerryModel" "kept" "[I") ∈ ab_G := ab_gm (tb_in6 (List.mem_of_getElem? (i := 103) rfl)) rfl
set_option maxRecDepth 100000 in
theorem kw_1305 : (Jvm.Cond.laysFinal "LackFerryModel" "LackFerryModel" "namesKept" "[J") ∈ ab_G := ab_gm (tb_in6 (List.mem_of_getElem? (i := 105) rfl)) rfl
set_option maxRecDepth 100000 in
theorem kw_1307 : (Jvm.Cond.laysFinal "LackFerryModel" "LackFerryModel" "areKept" "[Z") ∈ ab_G := ab_gm (tb_in6 (List.mem_of_getElem? (i := 107) rfl)) rfl
set_option maxRecDepth 100000 in
theorem kw_1310 : (Jvm.Cond.arrayClass Jvm.ClassFile.FieldType.boolean) ∈ ab_G := ab_gm (tb_in6 (List.mem_of_getElem? (i := 110) rfl)) rfl
set_option maxRecDepth 100000 in
theorem kw_1311 : (Jvm.Cond.methodLink "LackFerryLaw" (33 : Nat) ({ cls := "LackFerryModel", name := "strait", desc := "()I" } : Jvm.MethodName)) ∈ ab_G := ab_gm (tb_in6 (List.mem_of_getElem? (i := 111) rfl)) rfl
set_option maxRecDepth 100000 in
theorem kw_1312 : (Jvm.Cond.instanceMethod ({ cls := "LackFerryModel", name := "strait", desc := "()I" } : Jvm.MethodName)) ∈ ab_G := ab_gm (tb_in6 (List.mem_of_getElem? (i := 112) rfl)) rfl
set_option maxRecDepth 100000 in
theorem kw_1313 : (Jvm.Cond.selects "LackFerryModel" ({ cls := "LackFerryModel", name := "strait", desc := "()I" } : Jvm.MethodName) ({ cls := "LackFerryModel", name := "strait", desc := "()I" } : Jvm.MethodName)) ∈ ab_G := ab_gm (tb_in6 (List.mem_of_getElem? (i := 113) rfl)) rfl
set_option maxRecDepth 100000 in
theorem kw_1314 : (Jvm.Cond.code ({ cls := "LackFerryModel", name := "strait", desc := "()I" } : Jvm.MethodName) prog_13_method_30_code (2 : Nat) (Option.some Jvm.ClassFile.FieldType.int)) ∈ ab_G := ab_gm (tb_in6 (List.mem_of_getElem? (i := 114) rfl)) rfl
set_option maxRecDepth 100000 in
theorem kw_1315 : (Jvm.Cond.methodLink "LackFerryModel" (224 : Nat) ({ cls := "LackFerryModel", name := "taken", desc := "(I)V" } : Jvm.MethodName)) ∈ ab_G := ab_gm (tb_in6 (List.mem_of_getElem? (i := 115) rfl)) rfl
set_option maxRecDepth 100000 in
theorem kw_1317 : (Jvm.Cond.instanceMethod ({ cls := "LackFerryModel", name := "taken", desc := "(I)V" } : Jvm.MethodName)) ∈ ab_G := ab_gm (tb_in6 (List.mem_of_getElem? (i := 117) rfl)) rfl
set_option maxRecDepth 100000 in
theorem kw_1318 : (Jvm.Cond.code ({ cls := "LackFerryModel", name := "taken", desc := "(I)V" } : Jvm.MethodName) prog_13_method_6_code (2 : Nat) (Option.none : Option Jvm.ClassFile.FieldType)) ∈ ab_G := ab_gm (tb_in6 (List.mem_of_getElem? (i := 118) rfl)) rfl
set_option maxRecDepth 100000 in
theorem kw_1319 : (Jvm.Cond.methodLink "LackFerryModel" (176 : Nat) ({ cls := "LackFerryModel", name := "next", desc := "()V" } : Jvm.MethodName)) ∈ ab_G := ab_gm (tb_in6 (List.mem_of_getElem? (i := 119) rfl)) rfl
set_option maxRecDepth 100000 in
theorem kw_1321 : (Jvm.Cond.instanceMethod ({ cls := "LackFerryModel", name := "next", desc := "()V" } : Jvm.MethodName)) ∈ ab_G := ab_gm (tb_in6 (List.mem_of_getElem? (i := 121) rfl)) rfl
set_option maxRecDepth 100000 in
theorem kw_1322 : (Jvm.Cond.code ({ cls := "LackFerryModel", name := "next", desc := "()V" } : Jvm.MethodName) prog_13_method_16_code (4 : Nat) (Option.none : Option Jvm.ClassFile.FieldType)) ∈ ab_G := ab_gm (tb_in6 (List.mem_of_getElem? (i := 122) rfl)) rfl
set_option maxRecDepth 100000 in
theorem kw_1323 : (Jvm.Cond.methodLink "LackFerryModel" (137 : Nat) ({ cls := "LackFerryModel", name := "peek", desc := "()I" } : Jvm.MethodName)) ∈ ab_G := ab_gm (tb_in6 (List.mem_of_getElem? (i := 123) rfl)) rfl
set_option maxRecDepth 100000 in
theorem kw_1325 : (Jvm.Cond.instanceMethod ({ cls := "LackFerryModel", name := "peek", desc := "()I" } : Jvm.MethodName)) ∈ ab_G := ab_gm (tb_in6 (List.mem_of_getElem? (i := 125) rfl)) rfl
set_option maxRecDepth 100000 in
theorem kw_1326 : (Jvm.Cond.code ({ cls := "LackFerryModel", name := "peek", desc := "()I" } : Jvm.MethodName) prog_13_method_13_code (1 : Nat) (Option.some Jvm.ClassFile.FieldType.int)) ∈ ab_G := ab_gm (tb_in6 (List.mem_of_getElem? (i := 126) rfl)) rfl
set_option maxRecDepth 100000 in
theorem kw_1327 : (Jvm.Cond.methodLink "LackFerryModel" (150 : Nat) ({ cls := "LackFerryModel", name := "isSmall", desc := "(I)Z" } : Jvm.MethodName)) ∈ ab_G := ab_gm (tb_in6 (List.mem_of_getElem? (i := 127) rfl)) rfl
set_option maxRecDepth 100000 in
theorem kw_1328 : (Jvm.Cond.static ({ cls := "LackFerryModel", name := "isSmall", desc := "(I)Z" } : Jvm.MethodName)) ∈ ab_G := ab_gm (tb_in6 (List.mem_of_getElem? (i := 128) rfl)) rfl
set_option maxRecDepth 100000 in
theorem kw_1329 : (Jvm.Cond.code ({ cls := "LackFerryModel", name := "isSmall", desc := "(I)Z" } : Jvm.MethodName) prog_13_method_14_code (1 : Nat) (Option.some Jvm.ClassFile.FieldType.boolean)) ∈ ab_G := ab_gm (tb_in6 (List.mem_of_getElem? (i := 129) rfl)) rfl
set_option maxRecDepth 100000 in
theorem kw_1330 : (Jvm.Cond.methodLink "LackFerryModel" (154 : Nat) ({ cls := "LackFerryModel", name := "isDigit", desc := "(I)Z" } : Jvm.MethodName)) ∈ ab_G := ab_gm (tb_in6 (List.mem_of_getElem? (i := 130) rfl)) rfl
set_option maxRecDepth 100000 in
theorem kw_1331 : (Jvm.Cond.static ({ cls := "LackFerryModel", name := "isDigit", desc := "(I)Z" } : Jvm.MethodName)) ∈ ab_G := ab_gm (tb_in6 (List.mem_of_getElem? (i := 131) rfl)) rfl
set_option maxRecDepth 100000 in
theorem kw_1332 : (Jvm.Cond.code ({ cls := "LackFerryModel", name := "isDigit", desc := "(I)Z" } : Jvm.MethodName) prog_13_method_15_code (1 : Nat) (Option.some Jvm.ClassFile.FieldType.boolean)) ∈ ab_G := ab_gm (tb_in6 (List.mem_of_getElem? (i := 132) rfl)) rfl
set_option maxRecDepth 100000 in
theorem kw_1333 : (Jvm.Cond.methodLink "LackFerryModel" (230 : Nat) ({ cls := "LackFerryModel", name := "line", desc := "()Z" } : Jvm.MethodName)) ∈ ab_G := ab_gm (tb_in6 (List.mem_of_getElem? (i := 133) rfl)) rfl
set_option maxRecDepth 100000 in
theorem kw_1335 : (Jvm.Cond.instanceMethod ({ cls := "LackFerryModel", name := "line", desc := "()Z" } : Jvm.MethodName)) ∈ ab_G := ab_gm (tb_in6 (List.mem_of_getElem? (i := 135) rfl)) rfl
set_option maxRecDepth 100000 in
theorem kw_1336 : (Jvm.Cond.code ({ cls := "LackFerryModel", name := "line", desc := "()Z" } : Jvm.MethodName) prog_13_method_28_code (4 : Nat) (Option.some Jvm.ClassFile.FieldType.boolean)) ∈ ab_G := ab_gm (tb_in6 (List.mem_of_getElem? (i := 136) rfl)) rfl
set_option maxRecDepth 100000 in
theorem kw_1337 : (Jvm.Cond.methodLink "LackFerryModel" (201 : Nat) ({ cls := "LackFerryModel", name := "isWord", desc := "(J)Z" } : Jvm.MethodName)) ∈ ab_G := ab_gm (tb_in6 (List.mem_of_getElem? (i := 137) rfl)) rfl
set_option maxRecDepth 100000 in
theorem kw_1339 : (Jvm.Cond.instanceMethod ({ cls := "LackFerryModel", name := "isWord", desc := "(J)Z" } : Jvm.MethodName)) ∈ ab_G := ab_gm (tb_in6 (List.mem_of_getElem? (i := 139) rfl)) rfl
set_option maxRecDepth 100000 in
theorem kw_1340 : (Jvm.Cond.code ({ cls := "LackFerryModel", name := "isWord", desc := "(J)Z" } : Jvm.MethodName) prog_13_method_18_code (3 : Nat) (Option.some Jvm.ClassFile.FieldType.boolean)) ∈ ab_G := ab_gm (tb_in6 (List.mem_of_getElem? (i := 140) rfl)) rfl
set_option maxRecDepth 100000 in
theorem kw_1341 : (Jvm.Cond.methodLink "LackFerryModel" (173 : Nat) ({ cls := "LackFerryModel", name := "bad", desc := "(I)Z" } : Jvm.MethodName)) ∈ ab_G := ab_gm (tb_in6 (List.mem_of_getElem? (i := 141) rfl)) rfl
set_option maxRecDepth 100000 in
theorem kw_1343 : (Jvm.Cond.instanceMethod ({ cls := "LackFerryModel", name := "bad", desc := "(I)Z" } : Jvm.MethodName)) ∈ ab_G := ab_gm (tb_in6 (List.mem_of_getElem? (i := 143) rfl)) rfl
set_option maxRecDepth 100000 in
theorem kw_1344 : (Jvm.Cond.code ({ cls := "LackFerryModel", name := "bad", desc := "(I)Z" } : Jvm.MethodName) prog_13_method_17_code (2 : Nat) (Option.some Jvm.ClassFile.FieldType.boolean)) ∈ ab_G := ab_gm (tb_in6 (List.mem_of_getElem? (i := 144) rfl)) rfl
set_option maxRecDepth 100000 in
theorem kw_1345 : (Jvm.Cond.methodLink "LackFerryModel" (209 : Nat) ({ cls := "LackFerryModel", name := "puts", desc := "(III)Z" } : Jvm.MethodName)) ∈ ab_G := ab_gm (tb_in6 (List.mem_of_getElem? (i := 145) rfl)) rfl
set_option maxRecDepth 100000 in
theorem kw_1347 : (Jvm.Cond.instanceMethod ({ cls := "LackFerryModel", name := "puts", desc := "(III)Z" } : Jvm.MethodName)) ∈ ab_G := ab_gm (tb_in6 (List.mem_of_getElem? (i := 147) rfl)) rfl
set_option maxRecDepth 100000 in
theorem kw_1348 : (Jvm.Cond.code ({ cls := "LackFerryModel", name := "puts", desc := "(III)Z" } : Jvm.MethodName) prog_13_method_23_code (4 : Nat) (Option.some Jvm.ClassFile.FieldType.boolean)) ∈ ab_G := ab_gm (tb_in6 (List.mem_of_getElem? (i := 148) rfl)) rfl
set_option maxRecDepth 100000 in
theorem kw_1349 : (Jvm.Cond.methodLink "LackFerryModel" (186 : Nat) ({ cls := "LackFerryModel", name := "takes", desc := "(II)Z" } : Jvm.MethodName)) ∈ ab_G := ab_gm (tb_in6 (List.mem_of_getElem? (i := 149) rfl)) rfl
set_option maxRecDepth 100000 in
theorem kw_1351 : (Jvm.Cond.instanceMethod ({ cls := "LackFerryModel", name := "takes", desc := "(II)Z" } : Jvm.MethodName)) ∈ ab_G := ab_gm (tb_in6 (List.mem_of_getElem? (i := 151) rfl)) rfl
set_option maxRecDepth 100000 in
theorem kw_1352 : (Jvm.Cond.code ({ cls := "LackFerryModel", name := "takes", desc := "(II)Z" } : Jvm.MethodName) prog_13_method_22_code (3 : Nat) (Option.some Jvm.ClassFile.FieldType.boolean)) ∈ ab_G := ab_gm (tb_in6 (List.mem_of_getElem? (i := 152) rfl)) rfl
set_option maxRecDepth 100000 in
theorem kw_1353 : (Jvm.Cond.methodLink "LackFerryModel" (179 : Nat) ({ cls := "LackFerryModel", name := "isIn", desc := "(III)Z" } : Jvm.MethodName)) ∈ ab_G := ab_gm (tb_in6 (List.mem_of_getElem? (i := 153) rfl)) rfl
set_option maxRecDepth 100000 in
theorem kw_1354 : (Jvm.Cond.static ({ cls := "LackFerryModel", name := "isIn", desc := "(III)Z" } : Jvm.MethodName)) ∈ ab_G := ab_gm (tb_in6 (List.mem_of_getElem? (i := 154) rfl)) rfl
set_option maxRecDepth 100000 in
theorem kw_1355 : (Jvm.Cond.code ({ cls := "LackFerryModel", name := "isIn", desc := "(III)Z" } : Jvm.MethodName) prog_13_method_7_code (3 : Nat) (Option.some Jvm.ClassFile.FieldType.boolean)) ∈ ab_G := ab_gm (tb_in6 (List.mem_of_getElem? (i := 155) rfl)) rfl
set_option maxRecDepth 100000 in
theorem kw_1356 : (Jvm.Cond.methodLink "LackFerryModel" (212 : Nat) ({ cls := "LackFerryModel", name := "fresh", desc := "(I)Z" } : Jvm.MethodName)) ∈ ab_G := ab_gm (tb_in6 (List.mem_of_getElem? (i := 156) rfl)) rfl
set_option maxRecDepth 100000 in
theorem kw_1358 : (Jvm.Cond.instanceMethod ({ cls := "LackFerryModel", name := "fresh", desc := "(I)Z" } : Jvm.MethodName)) ∈ ab_G := ab_gm (tb_in6 (List.mem_of_getElem? (i := 158) rfl)) rfl
set_option maxRecDepth 100000 in
theorem kw_1359 : (Jvm.Cond.code ({ cls := "LackFerryModel", name := "fresh", desc := "(I)Z" } : Jvm.MethodName) prog_13_method_25_code (2 : Nat) (Option.some Jvm.ClassFile.FieldType.boolean)) ∈ ab_G := ab_gm (tb_in6 (List.mem_of_getElem? (i := 159) rfl)) rfl
set_option maxRecDepth 100000 in
theorem kw_1360 : (Jvm.Cond.methodLink "LackFerryModel" (190 : Nat) ({ cls := "LackFerryModel", name := "isName", desc := "()Z" } : Jvm.MethodName)) ∈ ab_G := ab_gm (tb_in6 (List.mem_of_getElem? (i := 160) rfl)) rfl
set_option maxRecDepth 100000 in
theorem kw_1362 : (Jvm.Cond.instanceMethod ({ cls := "LackFerryModel", name := "isName", desc := "()Z" } : Jvm.MethodName)) ∈ ab_G := ab_gm (tb_in6 (List.mem_of_getElem? (i := 162) rfl)) rfl
set_option maxRecDepth 100000 in
theorem kw_1363 : (Jvm.Cond.code ({ cls := "LackFerryModel", name := "isName", desc := "()Z" } : Jvm.MethodName) prog_13_method_21_code (3 : Nat) (Option.some Jvm.ClassFile.FieldType.boolean)) ∈ ab_G := ab_gm (tb_in6 (List.mem_of_getElem? (i := 163) rfl)) rfl
set_option maxRecDepth 100000 in
theorem kw_1364 : (Jvm.Cond.methodLink "LackFerryModel" (194 : Nat) ({ cls := "LackFerryModel", name := "find", desc := "(II)I" } : Jvm.MethodName)) ∈ ab_G := ab_gm (tb_in6 (List.mem_of_getElem? (i := 164) rfl)) rfl
set_option maxRecDepth 100000 in
theorem kw_1366 : (Jvm.Cond.instanceMethod ({ cls := "LackFerryModel", name := "find", desc := "(II)I" } : Jvm.MethodName)) ∈ ab_G := ab_gm (tb_in6 (List.mem_of_getElem? (i := 166) rfl)) rfl
set_option maxRecDepth 100000 in
theorem kw_1367 : (Jvm.Cond.code ({ cls := "LackFerryModel", name := "find", desc := "(II)I" } : Jvm.MethodName) prog_13_method_24_code (4 : Nat) (Option.some Jvm.ClassFile.FieldType.int)) ∈ ab_G := ab_gm (tb_in6 (List.mem_of_getElem? (i := 167) rfl)) rfl
set_option maxRecDepth 100000 in
theorem kw_1368 : (Jvm.Cond.methodLink "LackFerryModel" (215 : Nat) ({ cls := "LackFerryModel", name := "readMisses", desc := "()Z" } : Jvm.MethodName)) ∈ ab_G := ab_gm (tb_in6 (List.mem_of_getElem? (i := 168) rfl)) rfl
set_option maxRecDepth 100000 in
theorem kw_1370 : (Jvm.Cond.instanceMethod ({ cls := "LackFerryModel", name := "readMisses", desc := "()Z" } : Jvm.MethodName)) ∈ ab_G := ab_gm (tb_in6 (List.mem_of_getElem? (i := 170) rfl)) rfl
set_option maxRecDepth 100000 in
theorem kw_1371 : (Jvm.Cond.code ({ cls := "LackFerryModel", name := "readMisses", desc := "()Z" } : Jvm.MethodName) prog_13_method_29_code (5 : Nat) (Option.some Jvm.ClassFile.FieldType.boolean)) ∈ ab_G := ab_gm (tb_in6 (List.mem_of_getElem? (i := 171) rfl)) rfl
set_option maxRecDepth 100000 in
theorem kw_1372 : (Jvm.Cond.methodLink "LackFerryModel" (218 : Nat) ({ cls := "LackFerryModel", name := "takesName", desc := "(II)Z" } : Jvm.MethodName)) ∈ ab_G := ab_gm (tb_in6 (List.mem_of_getElem? (i := 172) rfl)) rfl
set_option maxRecDepth 100000 in
theorem kw_1374 : (Jvm.Cond.instanceMethod ({ cls := "LackFerryModel", name := "takesName", desc := "(II)Z" } : Jvm.MethodName)) ∈ ab_G := ab_gm (tb_in6 (List.mem_of_getElem? (i := 174) rfl)) rfl
set_option maxRecDepth 100000 in
theorem kw_1375 : (Jvm.Cond.code ({ cls := "LackFerryModel", name := "takesName", desc := "(II)Z" } : Jvm.MethodName) prog_13_method_27_code (3 : Nat) (Option.some Jvm.ClassFile.FieldType.boolean)) ∈ ab_G := ab_gm (tb_in6 (List.mem_of_getElem? (i := 175) rfl)) rfl
set_option maxRecDepth 100000 in
theorem kw_1376 : (Jvm.Cond.methodLink "LackFerryModel" (198 : Nat) ({ cls := "LackFerryModel", name := "looksAt", desc := "(II)Z" } : Jvm.MethodName)) ∈ ab_G := ab_gm (tb_in6 (List.mem_of_getElem? (i := 176) rfl)) rfl
set_option maxRecDepth 100000 in
theorem kw_1378 : (Jvm.Cond.instanceMethod ({ cls := "LackFerryModel", name := "looksAt", desc := "(II)Z" } : Jvm.MethodName)) ∈ ab_G := ab_gm (tb_in6 (List.mem_of_getElem? (i := 178) rfl)) rfl
set_option maxRecDepth 100000 in
theorem kw_1379 : (Jvm.Cond.code ({ cls := "LackFerryModel", name := "looksAt", desc := "(II)Z" } : Jvm.MethodName) prog_13_method_26_code (3 : Nat) (Option.some Jvm.ClassFile.FieldType.boolean)) ∈ ab_G := ab_gm (tb_in6 (List.mem_of_getElem? (i := 179) rfl)) rfl
set_option maxRecDepth 100000 in
theorem kw_1380 : (Jvm.Cond.methodLink "LackFerryModel" (221 : Nat) ({ cls := "LackFerryModel", name := "bitOf", desc := "(II)Z" } : Jvm.MethodName)) ∈ ab_G := ab_gm (tb_in6 (List.mem_of_getElem? (i := 180) rfl)) rfl
set_option maxRecDepth 100000 in
theorem kw_1381 : (Jvm.Cond.static ({ cls := "LackFerryModel", name := "bitOf", desc := "(II)Z" } : Jvm.MethodName)) ∈ ab_G := ab_gm (tb_in6 (List.mem_of_getElem? (i := 181) rfl)) rfl
set_option maxRecDepth 100000 in
theorem kw_1382 : (Jvm.Cond.code ({ cls := "LackFerryModel", name := "bitOf", desc := "(II)Z" } : Jvm.MethodName) prog_13_method_8_code (2 : Nat) (Option.some Jvm.ClassFile.FieldType.boolean)) ∈ ab_G := ab_gm (tb_in6 (List.mem_of_getElem? (i := 182) rfl)) rfl
set_option maxRecDepth 100000 in
theorem kw_1383 : (Jvm.Cond.methodLink "LackFerryModel" (233 : Nat) ({ cls := "LackFerryModel", name := "sign", desc := "(I)Z" } : Jvm.MethodName)) ∈ ab_G := ab_gm (tb_in6 (List.mem_of_getElem? (i := 183) rfl)) rfl
set_option maxRecDepth 100000 in
theorem kw_1385 : (Jvm.Cond.instanceMethod ({ cls := "LackFerryModel", name := "sign", desc := "(I)Z" } : Jvm.MethodName)) ∈ ab_G := ab_gm (tb_in6 (List.mem_of_getElem? (i := 185) rfl)) rfl
set_option maxRecDepth 100000 in
theorem kw_1386 : (Jvm.Cond.code ({ cls := "LackFerryModel", name := "sign", desc := "(I)Z" } : Jvm.MethodName) prog_13_method_20_code (2 : Nat) (Option.some Jvm.ClassFile.FieldType.boolean)) ∈ ab_G := ab_gm (tb_in6 (List.mem_of_getElem? (i := 186) rfl)) rfl
set_option maxRecDepth 100000 in
theorem kw_1387 : (Jvm.Cond.methodLink "LackFerryModel" (170 : Nat) ({ cls := "LackFerryModel", name := "isSign", desc := "(I)Z" } : Jvm.MethodName)) ∈ ab_G := ab_gm (tb_in6 (List.mem_of_getElem? (i := 187) rfl)) rfl
set_option maxRecDepth 100000 in
theorem kw_1389 : (Jvm.Cond.instanceMethod ({ cls := "LackFerryModel", name := "isSign", desc := "(I)Z" } : Jvm.MethodName)) ∈ ab_G := ab_gm (tb_in6 (List.mem_of_getElem? (i := 189) rfl)) rfl
set_option maxRecDepth 100000 in
theorem kw_1390 : (Jvm.Cond.code ({ cls := "LackFerryModel", name := "isSign", desc := "(I)Z" } : Jvm.MethodName) prog_13_method_19_code (2 : Nat) (Option.some Jvm.ClassFile.FieldType.boolean)) ∈ ab_G := ab_gm (tb_in6 (List.mem_of_getElem? (i := 190) rfl)) rfl
set_option maxRecDepth 100000 in
theorem kw_1391 : (Jvm.Cond.methodLink "LackFerryLaw" (37 : Nat) ({ cls := "LackFerryModel", name := "fault", desc := "()I" } : Jvm.MethodName)) ∈ ab_G := ab_gm (tb_in6 (List.mem_of_getElem? (i := 191) rfl)) rfl
set_option maxRecDepth 100000 in
theorem kw_1392 : (Jvm.Cond.instanceMethod ({ cls := "LackFerryModel", name := "fault", desc := "()I" } : Jvm.MethodName)) ∈ ab_G := ab_gm (tb_in6 (List.mem_of_getElem? (i := 192) rfl)) rfl
set_option maxRecDepth 100000 in
theorem kw_1393 : (Jvm.Cond.selects "LackFerryModel" ({ cls := "LackFerryModel", name := "fault", desc := "()I" } : Jvm.MethodName) ({ cls := "LackFerryModel", name := "fault", desc := "()I" } : Jvm.MethodName)) ∈ ab_G := ab_gm (tb_in6 (List.mem_of_getElem? (i := 193) rfl)) rfl
set_option maxRecDepth 100000 in
theorem kw_1394 : (Jvm.Cond.code ({ cls := "LackFerryModel", name := "fault", desc := "()I" } : Jvm.MethodName) prog_13_method_31_code (1 : Nat) (Option.some Jvm.ClassFile.FieldType.int)) ∈ ab_G := ab_gm (tb_in6 (List.mem_of_getElem? (i := 194) rfl)) rfl
set_option maxRecDepth 100000 in
theorem kw_1395 : (Jvm.Cond.methodLink "LackFerryLaw" (42 : Nat) ({ cls := "LackFerryModel", name := "good", desc := "(III)I" } : Jvm.MethodName)) ∈ ab_G := ab_gm (tb_in6 (List.mem_of_getElem? (i := 195) rfl)) rfl
set_option maxRecDepth 100000 in
theorem kw_1396 : (Jvm.Cond.instanceMethod ({ cls := "LackFerryModel", name := "good", desc := "(III)I" } : Jvm.MethodName)) ∈ ab_G := ab_gm (tb_in6 (List.mem_of_getElem? (i := 196) rfl)) rfl
set_option maxRecDepth 100000 in
theorem kw_1397 : (Jvm.Cond.selects "LackFerryModel" ({ cls := "LackFerryModel", name := "good", desc := "(III)I" } : Jvm.MethodName) ({ cls := "LackFerryModel", name := "good", desc := "(III)I" } : Jvm.MethodName)) ∈ ab_G := ab_gm (tb_in6 (List.mem_of_getElem? (i := 197) rfl)) rfl
set_option maxRecDepth 100000 in
theorem kw_1398 : (Jvm.Cond.code ({ cls := "LackFerryModel", name := "good", desc := "(III)I" } : Jvm.MethodName) prog_13_method_40_code (5 : Nat) (Option.some Jvm.ClassFile.FieldType.int)) ∈ ab_G := ab_gm (tb_in6 (List.mem_of_getElem? (i := 198) rfl)) rfl
set_option maxRecDepth 100000 in
theorem kw_1399 : (Jvm.Cond.methodLink "LackFerryModel" (251 : Nat) ({ cls := "LackFerryModel", name := "isPlace", desc := "(II)Z" } : Jvm.MethodName)) ∈ ab_G := ab_gm (tb_in6 (List.mem_of_getElem? (i := 199) rfl)) rfl
set_option maxRecDepth 100000 in
theorem kw_1401 : (Jvm.Cond.instanceMethod ({ cls := "LackFerryModel", name := "isPlace", desc := "(II)Z" } : Jvm.MethodName)) ∈ ab_G := ab_gm (tb_in6 (List.mem_of_getElem? (i := 201) rfl)) rfl
set_option maxRecDepth 100000 in
theorem kw_1402 : (Jvm.Cond.code ({ cls := "LackFerryModel", name := "isPlace", desc := "(II)Z" } : Jvm.MethodName) prog_13_method_34_code (3 : Nat) (Option.some Jvm.ClassFile.FieldType.boolean)) ∈ ab_G := ab_gm (tb_in6 (List.mem_of_getElem? (i := 202) rfl)) rfl
set_option maxRecDepth 100000 in
theorem kw_1403 : (Jvm.Cond.methodLink "LackFerryModel" (239 : Nat) ({ cls := "LackFerryModel", name := "isGood", desc := "(I)Z" } : Jvm.MethodName)) ∈ ab_G := ab_gm (tb_in6 (List.mem_of_getElem? (i := 203) rfl)) rfl
set_option maxRecDepth 100000 in
theorem kw_1405 : (Jvm.Cond.instanceMethod ({ cls := "LackFerryModel", name := "isGood", desc := "(I)Z" } : Jvm.MethodName)) ∈ ab_G := ab_gm (tb_in6 (List.mem_of_getElem? (i := 205) rfl)) rfl
set_option maxRecDepth 100000 in
theorem kw_1406 : (Jvm.Cond.code ({ cls := "LackFerryModel", name := "isGood", desc := "(I)Z" } : Jvm.MethodName) prog_13_method_32_code (2 : Nat) (Option.some Jvm.ClassFile.FieldType.boolean)) ∈ ab_G := ab_gm (tb_in6 (List.mem_of_getElem? (i := 206) rfl)) rfl
set_option maxRecDepth 100000 in
theorem kw_1407 : (Jvm.Cond.methodLink "LackFerryModel" (242 : Nat) ({ cls := "LackFerryModel", name := "isShore", desc := "(I)Z" } : Jvm.MethodName)) ∈ ab_G := ab_gm (tb_in6 (List.mem_of_getElem? (i := 207) rfl)) rfl
set_option maxRecDepth 100000 in
theorem kw_1409 : (Jvm.Cond.instanceMethod ({ cls := "LackFerryModel", name := "isShore", desc := "(I)Z" } : Jvm.MethodName)) ∈ ab_G := ab_gm (tb_in6 (List.mem_of_getElem? (i := 209) rfl)) rfl
set_option maxRecDepth 100000 in
theorem kw_1410 : (Jvm.Cond.code ({ cls := "LackFerryModel", name := "isShore", desc := "(I)Z" } : Jvm.MethodName) prog_13_method_33_code (2 : Nat) (Option.some Jvm.ClassFile.FieldType.boolean)) ∈ ab_G := ab_gm (tb_in6 (List.mem_of_getElem? (i := 210) rfl)) rfl
set_option maxRecDepth 100000 in
theorem kw_1411 : (Jvm.Cond.methodLink "LackFerryModel" (245 : Nat) ({ cls := "LackFerryModel", name := "cell", desc := "(II)I" } : Jvm.MethodName)) ∈ ab_G := ab_gm (tb_in6 (List.mem_of_getElem? (i := 211) rfl)) rfl
set_option maxRecDepth 100000 in
theorem kw_1412 : (Jvm.Cond.static ({ cls := "LackFerryModel", name := "cell", desc := "(II)I" } : Jvm.MethodName)) ∈ ab_G := ab_gm (tb_in6 (List.mem_of_getElem? (i := 212) rfl)) rfl
set_option maxRecDepth 100000 in
theorem kw_1413 : (Jvm.Cond.code ({ cls := "LackFerryModel", name := "cell", desc := "(II)I" } : Jvm.MethodName) prog_13_method_37_code (2 : Nat) (Option.some Jvm.ClassFile.FieldType.int)) ∈ ab_G := ab_gm (tb_in6 (List.mem_of_getElem? (i := 213) rfl)) rfl
set_option maxRecDepth 100000 in
theorem kw_1414 : (Jvm.Cond.methodLink "LackFerryModel" (248 : Nat) ({ cls := "LackFerryModel", name := "lackOf", desc := "(II)I" } : Jvm.MethodName)) ∈ ab_G := ab_gm (tb_in6 (List.mem_of_getElem? (i := 214) rfl)) rfl
set_option maxRecDepth 100000 in
theorem kw_1416 : (Jvm.Cond.instanceMethod ({ cls := "LackFerryModel", name := "lackOf", desc := "(II)I" } : Jvm.MethodName)) ∈ ab_G := ab_gm (tb_in6 (List.mem_of_getElem? (i := 216) rfl)) rfl
set_option maxRecDepth 100000 in
theorem kw_1417 : (Jvm.Cond.code ({ cls := "LackFerryModel", name := "lackOf", desc := "(II)I" } : Jvm.MethodName) prog_13_method_38_code (4 : Nat) (Option.some Jvm.ClassFile.FieldType.int)) ∈ ab_G := ab_gm (tb_in6 (List.mem_of_getElem? (i := 217) rfl)) rfl
set_option maxRecDepth 100000 in
theorem kw_1418 : (Jvm.Cond.methodLink "LackFerryModel" (254 : Nat) ({ cls := "LackFerryModel", name := "isFalse", desc := "(II)Z" } : Jvm.MethodName)) ∈ ab_G := ab_gm (tb_in6 (List.mem_of_getElem? (i := 218) rfl)) rfl
set_option maxRecDepth 100000 in
theorem kw_1420 : (Jvm.Cond.instanceMethod ({ cls := "LackFerryModel", name := "isFalse", desc := "(II)Z" } : Jvm.MethodName)) ∈ ab_G := ab_gm (tb_in6 (List.mem_of_getElem? (i := 220) rfl)) rfl
set_option maxRecDepth 100000 in
theorem kw_1421 : (Jvm.Cond.code ({ cls := "LackFerryModel", name := "isFalse", desc := "(II)Z" } : Jvm.MethodName) prog_13_method_39_code (3 : Nat) (Option.some Jvm.ClassFile.FieldType.boolean)) ∈ ab_G := ab_gm (tb_in6 (List.mem_of_getElem? (i := 221) rfl)) rfl
set_option maxRecDepth 100000 in
theorem kw_1422 : (Jvm.Cond.methodLink "LackFerryLaw" (46 : Nat) ({ cls := "LackFerryModel", name := "crossed", desc := "(II)I" } : Jvm.MethodName)) ∈ ab_G := ab_gm (tb_in6 (List.mem_of_getElem? (i := 222) rfl)) rfl
set_option maxRecDepth 100000 in
theorem kw_1423 : (Jvm.Cond.instanceMethod ({ cls := "LackFerryModel", name := "crossed", desc := "(II)I" } : Jvm.MethodName)) ∈ ab_G := ab_gm (tb_in6 (List.mem_of_getElem? (i := 223) rfl)) rfl
set_option maxRecDepth 100000 in
theorem kw_1424 : (Jvm.Cond.selects "LackFerryModel" ({ cls := "LackFerryModel", name := "crossed", desc := "(II)I" } : Jvm.MethodName) ({ cls := "LackFerryModel", name := "crossed", desc := "(II)I" } : Jvm.MethodName)) ∈ ab_G := ab_gm (tb_in6 (List.mem_of_getElem? (i := 224) rfl)) rfl
set_option maxRecDepth 100000 in
theorem kw_1425 : (Jvm.Cond.code ({ cls := "LackFerryModel", name := "crossed", desc := "(II)I" } : Jvm.MethodName) prog_13_method_41_code (3 : Nat) (Option.some Jvm.ClassFile.FieldType.int)) ∈ ab_G := ab_gm (tb_in6 (List.mem_of_getElem? (i := 225) rfl)) rfl
set_option maxRecDepth 100000 in
theorem kw_1426 : (Jvm.Cond.methodLink "LackFerryLaw" (52 : Nat) ({ cls := "LackFerryModel", name := "man", desc := "(II)I" } : Jvm.MethodName)) ∈ ab_G := ab_gm (tb_in6 (List.mem_of_getElem? (i := 226) rfl)) rfl
set_option maxRecDepth 100000 in
theorem kw_1427 : (Jvm.Cond.instanceMethod ({ cls := "LackFerryModel", name := "man", desc := "(II)I" } : Jvm.MethodName)) ∈ ab_G := ab_gm (tb_in6 (List.mem_of_getElem? (i := 227) rfl)) rfl
set_option maxRecDepth 100000 in
theorem kw_1428 : (Jvm.Cond.selects "LackFerryModel" ({ cls := "LackFerryModel", name := "man", desc := "(II)I" } : Jvm.MethodName) ({ cls := "LackFerryModel", name := "man", desc := "(II)I" } : Jvm.MethodName)) ∈ ab_G := ab_gm (tb_in6 (List.mem_of_getElem? (i := 228) rfl)) rfl
set_option maxRecDepth 100000 in
theorem kw_1429 : (Jvm.Cond.code ({ cls := "LackFerryModel", name := "man", desc := "(II)I" } : Jvm.MethodName) prog_13_method_46_code (3 : Nat) (Option.some Jvm.ClassFile.FieldType.int)) ∈ ab_G := ab_gm (tb_in6 (List.mem_of_getElem? (i := 229) rfl)) rfl
set_option maxRecDepth 100000 in
theorem kw_1430 : (Jvm.Cond.methodLink "LackFerryModel" (266 : Nat) ({ cls := "LackFerryModel", name := "isMan", desc := "(I)Z" } : Jvm.MethodName)) ∈ ab_G := ab_gm (tb_in6 (List.mem_of_getElem? (i := 230) rfl)) rfl
set_option maxRecDepth 100000 in
theorem kw_1432 : (Jvm.Cond.instanceMethod ({ cls := "LackFerryModel", name := "isMan", desc := "(I)Z" } : Jvm.MethodName)) ∈ ab_G := ab_gm (tb_in6 (List.mem_of_getElem? (i := 232) rfl)) rfl
set_option maxRecDepth 100000 in
theorem kw_1433 : (Jvm.Cond.code ({ cls := "LackFerryModel", name := "isMan", desc := "(I)Z" } : Jvm.MethodName) prog_13_method_35_code (2 : Nat) (Option.some Jvm.ClassFile.FieldType.boolean)) ∈ ab_G := ab_gm (tb_in6 (List.mem_of_getElem? (i := 233) rfl)) rfl
set_option maxRecDepth 100000 in
theorem kw_1434 : (Jvm.Cond.methodLink "LackFerryModel" (269 : Nat) ({ cls := "LackFerryModel", name := "throwsIf", desc := "(Z)Z" } : Jvm.MethodName)) ∈ ab_G := ab_gm (tb_in6 (List.mem_of_getElem? (i := 234) rfl)) rfl
set_option maxRecDepth 100000 in
theorem kw_1436 : (Jvm.Cond.instanceMethod ({ cls := "LackFerryModel", name := "throwsIf", desc := "(Z)Z" } : Jvm.MethodName)) ∈ ab_G := ab_gm (tb_in6 (List.mem_of_getElem? (i := 236) rfl)) rfl
set_option maxRecDepth 100000 in
theorem kw_1437 : (Jvm.Cond.code ({ cls := "LackFerryModel", name := "throwsIf", desc := "(Z)Z" } : Jvm.MethodName) prog_13_method_2_code (2 : Nat) (Option.some Jvm.ClassFile.FieldType.boolean)) ∈ ab_G := ab_gm (tb_in6 (List.mem_of_getElem? (i := 237) rfl)) rfl
set_option maxRecDepth 100000 in
theorem kw_1438 : (Jvm.Cond.methodLink "LackFerryModel" (257 : Nat) ({ cls := "LackFerryModel", name := "isDead", desc := "(I)Z" } : Jvm.MethodName)) ∈ ab_G := ab_gm (tb_in6 (List.mem_of_getElem? (i := 238) rfl)) rfl
set_option maxRecDepth 100000 in
theorem kw_1440 : (Jvm.Cond.instanceMethod ({ cls := "LackFerryModel", name := "isDead", desc := "(I)Z" } : Jvm.MethodName)) ∈ ab_G := ab_gm (tb_in7 (List.mem_of_getElem? (i := 0) rfl)) rfl
set_option maxRecDepth 100000 in
theorem kw_1441 : (Jvm.Cond.code ({ cls := "LackFerryModel", name := "isDead", desc := "(I)Z" } : Jvm.MethodName) prog_13_method_36_code (2 : Nat) (Option.some Jvm.ClassFile.FieldType.boolean)) ∈ ab_G := ab_gm (tb_in7 (List.mem_of_getElem? (i := 1) rfl)) rfl
set_option maxRecDepth 100000 in
theorem kw_1442 : (Jvm.Cond.methodLink "LackFerryModel" (273 : Nat) ({ cls := "LackFerryModel", name := "missedBy", desc := "(I)I" } : Jvm.MethodName)) ∈ ab_G := ab_gm (tb_in7 (List.mem_of_getElem? (i := 2) rfl)) rfl
set_option maxRecDepth 100000 in
theorem kw_1444 : (Jvm.Cond.instanceMethod ({ cls := "LackFerryModel", name := "missedBy", desc := "(I)I" } : Jvm.MethodName)) ∈ ab_G := ab_gm (tb_in7 (List.mem_of_getElem? (i := 4) rfl)) rfl
set_option maxRecDepth 100000 in
theorem kw_1445 : (Jvm.Cond.code ({ cls := "LackFerryModel", name := "missedBy", desc := "(I)I" } : Jvm.MethodName) prog_13_method_44_code (4 : Nat) (Option.some Jvm.ClassFile.FieldType.int)) ∈ ab_G := ab_gm (tb_in7 (List.mem_of_getElem? (i := 5) rfl)) rfl
set_option maxRecDepth 100000 in
theorem kw_1446 : (Jvm.Cond.methodLink "LackFerryModel" (263 : Nat) ({ cls := "LackFerryModel", name := "doesMiss", desc := "(II)Z" } : Jvm.MethodName)) ∈ ab_G := ab_gm (tb_in7 (List.mem_of_getElem? (i := 6) rfl)) rfl
set_option maxRecDepth 100000 in
theorem kw_1448 : (Jvm.Cond.instanceMethod ({ cls := "LackFerryModel", name := "doesMiss", desc := "(II)Z" } : Jvm.MethodName)) ∈ ab_G := ab_gm (tb_in7 (List.mem_of_getElem? (i := 8) rfl)) rfl
set_option maxRecDepth 100000 in
theorem kw_1449 : (Jvm.Cond.code ({ cls := "LackFerryModel", name := "doesMiss", desc := "(II)Z" } : Jvm.MethodName) prog_13_method_43_code (4 : Nat) (Option.some Jvm.ClassFile.FieldType.boolean)) ∈ ab_G := ab_gm (tb_in7 (List.mem_of_getElem? (i := 9) rfl)) rfl
set_option maxRecDepth 100000 in
theorem kw_1450 : (Jvm.Cond.methodLink "LackFerryModel" (260 : Nat) ({ cls := "LackFerryModel", name := "areUnlike", desc := "(II)Z" } : Jvm.MethodName)) ∈ ab_G := ab_gm (tb_in7 (List.mem_of_getElem? (i := 10) rfl)) rfl
set_option maxRecDepth 100000 in
theorem kw_1452 : (Jvm.Cond.instanceMethod ({ cls := "LackFerryModel", name := "areUnlike", desc := "(II)Z" } : Jvm.MethodName)) ∈ ab_G := ab_gm (tb_in7 (List.mem_of_getElem? (i := 12) rfl)) rfl
set_option maxRecDepth 100000 in
theorem kw_1453 : (Jvm.Cond.code ({ cls := "LackFerryModel", name := "areUnlike", desc := "(II)Z" } : Jvm.MethodName) prog_13_method_42_code (3 : Nat) (Option.some Jvm.ClassFile.FieldType.boolean)) ∈ ab_G := ab_gm (tb_in7 (List.mem_of_getElem? (i := 13) rfl)) rfl
set_option maxRecDepth 100000 in
theorem kw_1454 : (Jvm.Cond.methodLink "LackFerryModel" (277 : Nat) ({ cls := "LackFerryModel", name := "missesOf", desc := "(I)I" } : Jvm.MethodName)) ∈ ab_G := ab_gm (tb_in7 (List.mem_of_getElem? (i := 14) rfl)) rfl
set_option maxRecDepth 100000 in
theorem kw_1456 : (Jvm.Cond.instanceMethod ({ cls := "LackFerryModel", name := "missesOf", desc := "(I)I" } : Jvm.MethodName)) ∈ ab_G := ab_gm (tb_in7 (List.mem_of_getElem? (i := 16) rfl)) rfl
set_option maxRecDepth 100000 in
theorem kw_1457 : (Jvm.Cond.code ({ cls := "LackFerryModel", name := "missesOf", desc := "(I)I" } : Jvm.MethodName) prog_13_method_45_code (4 : Nat) (Option.some Jvm.ClassFile.FieldType.int)) ∈ ab_G := ab_gm (tb_in7 (List.mem_of_getElem? (i := 17) rfl)) rfl
set_option maxRecDepth 100000 in
theorem kw_1458 : (Jvm.Cond.methodLink "LackFerryLaw" (56 : Nat) ({ cls := "LackFerryModel", name := "apart", desc := "(II)I" } : Jvm.MethodName)) ∈ ab_G := ab_gm (tb_in7 (List.mem_of_getElem? (i := 18) rfl)) rfl
set_option maxRecDepth 100000 in
theorem kw_1459 : (Jvm.Cond.instanceMethod ({ cls := "LackFerryModel", name := "apart", desc := "(II)I" } : Jvm.MethodName)) ∈ ab_G := ab_gm (tb_in7 (List.mem_of_getElem? (i := 19) rfl)) rfl
set_option maxRecDepth 100000 in
theorem kw_1460 : (Jvm.Cond.selects "LackFerryModel" ({ cls := "LackFerryModel", name := "apart", desc := "(II)I" } : Jvm.MethodName) ({ cls := "LackFerryModel", name := "apart", desc := "(II)I" } : Jvm.MethodName)) ∈ ab_G := ab_gm (tb_in7 (List.mem_of_getElem? (i := 20) rfl)) rfl
set_option maxRecDepth 100000 in
theorem kw_1461 : (Jvm.Cond.code ({ cls := "LackFerryModel", name := "apart", desc := "(II)I" } : Jvm.MethodName) prog_13_method_47_code (3 : Nat) (Option.some Jvm.ClassFile.FieldType.int)) ∈ ab_G := ab_gm (tb_in7 (List.mem_of_getElem? (i := 21) rfl)) rfl
set_option maxRecDepth 100000 in
theorem kw_1462 : (Jvm.Cond.methodLink "LackFerryLaw" (61 : Nat) ({ cls := "LackFerryModel", name := "now", desc := "(I)I" } : Jvm.MethodName)) ∈ ab_G := ab_gm (tb_in7 (List.mem_of_getElem? (i := 22) rfl)) rfl
set_option maxRecDepth 100000 in
theorem kw_1463 : (Jvm.Cond.instanceMethod ({ cls := "LackFerryModel", name := "now", desc := "(I)I" } : Jvm.MethodName)) ∈ ab_G := ab_gm (tb_in7 (List.mem_of_getElem? (i := 23) rfl)) rfl
set_option maxRecDepth 100000 in
theorem kw_1464 : (Jvm.Cond.selects "LackFerryModel" ({ cls := "LackFerryModel", name := "now", desc := "(I)I" } : Jvm.MethodName) ({ cls := "LackFerryModel", name := "now", desc := "(I)I" } : Jvm.MethodName)) ∈ ab_G := ab_gm (tb_in7 (List.mem_of_getElem? (i := 24) rfl)) rfl
set_option maxRecDepth 100000 in
theorem kw_1465 : (Jvm.Cond.code ({ cls := "LackFerryModel", name := "now", desc := "(I)I" } : Jvm.MethodName) prog_13_method_49_code (2 : Nat) (Option.some Jvm.ClassFile.FieldType.int)) ∈ ab_G := ab_gm (tb_in7 (List.mem_of_getElem? (i := 25) rfl)) rfl
set_option maxRecDepth 100000 in
theorem kw_1466 : (Jvm.Cond.methodLink "LackFerryModel" (280 : Nat) ({ cls := "LackFerryModel", name := "menOn", desc := "(I)I" } : Jvm.MethodName)) ∈ ab_G := ab_gm (tb_in7 (List.mem_of_getElem? (i := 26) rfl)) rfl
set_option maxRecDepth 100000 in
theorem kw_1468 : (Jvm.Cond.instanceMethod ({ cls := "LackFerryModel", name := "menOn", desc := "(I)I" } : Jvm.MethodName)) ∈ ab_G := ab_gm (tb_in7 (List.mem_of_getElem? (i := 28) rfl)) rfl
set_option maxRecDepth 100000 in
theorem kw_1469 : (Jvm.Cond.code ({ cls := "LackFerryModel", name := "menOn", desc := "(I)I" } : Jvm.MethodName) prog_13_method_48_code (4 : Nat) (Option.some Jvm.ClassFile.FieldType.int)) ∈ ab_G := ab_gm (tb_in7 (List.mem_of_getElem? (i := 29) rfl)) rfl
set_option maxRecDepth 100000 in
theorem kw_1470 : (Jvm.Cond.methodLink "LackFerryLaw" (65 : Nat) ({ cls := "LackFerryModel", name := "hoard", desc := "(III)I" } : Jvm.MethodName)) ∈ ab_G := ab_gm (tb_in7 (List.mem_of_getElem? (i := 30) rfl)) rfl
set_option maxRecDepth 100000 in
theorem kw_1471 : (Jvm.Cond.instanceMethod ({ cls := "LackFerryModel", name := "hoard", desc := "(III)I" } : Jvm.MethodName)) ∈ ab_G := ab_gm (tb_in7 (List.mem_of_getElem? (i := 31) rfl)) rfl
set_option maxRecDepth 100000 in
theorem kw_1472 : (Jvm.Cond.selects "LackFerryModel" ({ cls := "LackFerryModel", name := "hoard", desc := "(III)I" } : Jvm.MethodName) ({ cls := "LackFerryModel", name := "hoard", desc := "(III)I" } : Jvm.MethodName)) ∈ ab_G := ab_gm (tb_in7 (List.mem_of_getElem? (i := 32) rfl)) rfl
set_option maxRecDepth 100000 in
theorem kw_1473 : (Jvm.Cond.code ({ cls := "LackFerryModel", name := "hoard", desc := "(III)I" } : Jvm.MethodName) prog_13_method_58_code (4 : Nat) (Option.some Jvm.ClassFile.FieldType.int)) ∈ ab_G := ab_gm (tb_in7 (List.mem_of_getElem? (i := 33) rfl)) rfl
set_option maxRecDepth 100000 in
theorem kw_1474 : (Jvm.Cond.methodLink "LackFerryModel" (301 : Nat) ({ cls := "LackFerryModel", name := "whyHoard", desc := "(II)I" } : Jvm.MethodName)) ∈ ab_G := ab_gm (tb_in7 (List.mem_of_getElem? (i := 34) rfl)) rfl
set_option maxRecDepth 100000 in
theorem kw_1476 : (Jvm.Cond.instanceMethod ({ cls := "LackFerryModel", name := "whyHoard", desc := "(II)I" } : Jvm.MethodName)) ∈ ab_G := ab_gm (tb_in7 (List.mem_of_getElem? (i := 36) rfl)) rfl
set_option maxRecDepth 100000 in
theorem kw_1477 : (Jvm.Cond.code ({ cls := "LackFerryModel", name := "whyHoard", desc := "(II)I" } : Jvm.MethodName) prog_13_method_55_code (3 : Nat) (Option.some Jvm.ClassFile.FieldType.int)) ∈ ab_G := ab_gm (tb_in7 (List.mem_of_getElem? (i := 37) rfl)) rfl
set_option maxRecDepth 100000 in
theorem kw_1478 : (Jvm.Cond.methodLink "LackFerryModel" (304 : Nat) ({ cls := "LackFerryModel", name := "keep", desc := "()V" } : Jvm.MethodName)) ∈ ab_G := ab_gm (tb_in7 (List.mem_of_getElem? (i := 38) rfl)) rfl
set_option maxRecDepth 100000 in
theorem kw_1480 : (Jvm.Cond.instanceMethod ({ cls := "LackFerryModel", name := "keep", desc := "()V" } : Jvm.MethodName)) ∈ ab_G := ab_gm (tb_in7 (List.mem_of_getElem? (i := 40) rfl)) rfl
set_option maxRecDepth 100000 in
theorem kw_1481 : (Jvm.Cond.code ({ cls := "LackFerryModel", name := "keep", desc := "()V" } : Jvm.MethodName) prog_13_method_63_code (2 : Nat) (Option.none : Option Jvm.ClassFile.FieldType)) ∈ ab_G := ab_gm (tb_in7 (List.mem_of_getElem? (i := 41) rfl)) rfl
set_option maxRecDepth 100000 in
theorem kw_1482 : (Jvm.Cond.methodLink "LackFerryModel" (307 : Nat) ({ cls := "LackFerryModel", name := "hoards", desc := "(II)V" } : Jvm.MethodName)) ∈ ab_G := ab_gm (tb_in7 (List.mem_of_getElem? (i := 42) rfl)) rfl
set_option maxRecDepth 100000 in
theorem kw_1484 : (Jvm.Cond.instanceMethod ({ cls := "LackFerryModel", name := "hoards", desc := "(II)V" } : Jvm.MethodName)) ∈ ab_G := ab_gm (tb_in7 (List.mem_of_getElem? (i := 44) rfl)) rfl
set_option maxRecDepth 100000 in
theorem kw_1485 : (Jvm.Cond.code ({ cls := "LackFerryModel", name := "hoards", desc := "(II)V" } : Jvm.MethodName) prog_13_method_57_code (3 : Nat) (Option.none : Option Jvm.ClassFile.FieldType)) ∈ ab_G := ab_gm (tb_in7 (List.mem_of_getElem? (i := 45) rfl)) rfl
set_option maxRecDepth 100000 in
theorem kw_1486 : (Jvm.Cond.methodLink "LackFerryLaw" (69 : Nat) ({ cls := "LackFerryModel", name := "bare", desc := "(III)I" } : Jvm.MethodName)) ∈ ab_G := ab_gm (tb_in7 (List.mem_of_getElem? (i := 46) rfl)) rfl
set_option maxRecDepth 100000 in
theorem kw_1487 : (Jvm.Cond.instanceMethod ({ cls := "LackFerryModel", name := "bare", desc := "(III)I" } : Jvm.MethodName)) ∈ ab_G := ab_gm (tb_in7 (List.mem_of_getElem? (i := 47) rfl)) rfl
set_option maxRecDepth 100000 in
theorem kw_1488 : (Jvm.Cond.selects "LackFerryModel" ({ cls := "LackFerryModel", name := "bare", desc := "(III)I" } : Jvm.MethodName) ({ cls := "LackFerryModel", name := "bare", desc := "(III)I" } : Jvm.MethodName)) ∈ ab_G := ab_gm (tb_in7 (List.mem_of_getElem? (i := 48) rfl)) rfl
set_option maxRecDepth 100000 in
theorem kw_1489 : (Jvm.Cond.code ({ cls := "LackFerryModel", name := "bare", desc := "(III)I" } : Jvm.MethodName) prog_13_method_59_code (5 : Nat) (Option.some Jvm.ClassFile.FieldType.int)) ∈ ab_G := ab_gm (tb_in7 (List.mem_of_getElem? (i := 49) rfl)) rfl
set_option maxRecDepth 100000 in
theorem kw_1490 : (Jvm.Cond.methodLink "LackFerryModel" (311 : Nat) ({ cls := "LackFerryModel", name := "whyBare", desc := "(II)I" } : Jvm.MethodName)) ∈ ab_G := ab_gm (tb_in7 (List.mem_of_getElem? (i := 50) rfl)) rfl
set_option maxRecDepth 100000 in
theorem kw_1492 : (Jvm.Cond.instanceMethod ({ cls := "LackFerryModel", name := "whyBare", desc := "(II)I" } : Jvm.MethodName)) ∈ ab_G := ab_gm (tb_in7 (List.mem_of_getElem? (i := 52) rfl)) rfl
set_option maxRecDepth 100000 in
theorem kw_1493 : (Jvm.Cond.code ({ cls := "LackFerryModel", name := "whyBare", desc := "(II)I" } : Jvm.MethodName) prog_13_method_56_code (3 : Nat) (Option.some Jvm.ClassFile.FieldType.int)) ∈ ab_G := ab_gm (tb_in7 (List.mem_of_getElem? (i := 53) rfl)) rfl
set_option maxRecDepth 100000 in
theorem kw_1494 : (Jvm.Cond.methodLink "LackFerryLaw" (73 : Nat) ({ cls := "LackFerryModel", name := "waste", desc := "(III)I" } : Jvm.MethodName)) ∈ ab_G := ab_gm (tb_in7 (List.mem_of_getElem? (i := 54) rfl)) rfl
set_option maxRecDepth 100000 in
theorem kw_1495 : (Jvm.Cond.instanceMethod ({ cls := "LackFerryModel", name := "waste", desc := "(III)I" } : Jvm.MethodName)) ∈ ab_G := ab_gm (tb_in7 (List.mem_of_getElem? (i := 55) rfl)) rfl
set_option maxRecDepth 100000 in
theorem kw_1496 : (Jvm.Cond.selects "LackFerryModel" ({ cls := "LackFerryModel", name := "waste", desc := "(III)I" } : Jvm.MethodName) ({ cls := "LackFerryModel", name := "waste", desc := "(III)I" } : Jvm.MethodName)) ∈ ab_G := ab_gm (tb_in7 (List.mem_of_getElem? (i := 56) rfl)) rfl
set_option maxRecDepth 100000 in
theorem kw_1497 : (Jvm.Cond.code ({ cls := "LackFerryModel", name := "waste", desc := "(III)I" } : Jvm.MethodName) prog_13_method_60_code (4 : Nat) (Option.some Jvm.ClassFile.FieldType.int)) ∈ ab_G := ab_gm (tb_in7 (List.mem_of_getElem? (i := 57) rfl)) rfl
set_option maxRecDepth 100000 in
theorem kw_1498 : (Jvm.Cond.methodLink "LackFerryLaw" (77 : Nat) ({ cls := "LackFerryModel", name := "die", desc := "(I)I" } : Jvm.MethodName)) ∈ ab_G := ab_gm (tb_in7 (List.mem_of_getElem? (i := 58) rfl)) rfl
set_option maxRecDepth 100000 in
theorem kw_1499 : (Jvm.Cond.instanceMethod ({ cls := "LackFerryModel", name := "die", desc := "(I)I" } : Jvm.MethodName)) ∈ ab_G := ab_gm (tb_in7 (List.mem_of_getElem? (i := 59) rfl)) rfl
set_option maxRecDepth 100000 in
theorem kw_1500 : (Jvm.Cond.selects "LackFerryModel" ({ cls := "LackFerryModel", name := "die", desc := "(I)I" } : Jvm.MethodName) ({ cls := "LackFerryModel", name := "die", desc := "(I)I" } : Jvm.MethodName)) ∈ ab_G := ab_gm (tb_in7 (List.mem_of_getElem? (i := 60) rfl)) rfl
set_option maxRecDepth 100000 in
theorem kw_1501 : (Jvm.Cond.code ({ cls := "LackFerryModel", name := "die", desc := "(I)I" } : Jvm.MethodName) prog_13_method_61_code (2 : Nat) (Option.some Jvm.ClassFile.FieldType.int)) ∈ ab_G := ab_gm (tb_in7 (List.mem_of_getElem? (i := 61) rfl)) rfl
set_option maxRecDepth 100000 in
theorem kw_1502 : (Jvm.Cond.methodLink "LackFerryLaw" (81 : Nat) ({ cls := "LackFerryModel", name := "days", desc := "(I)I" } : Jvm.MethodName)) ∈ ab_G := ab_gm (tb_in7 (List.mem_of_getElem? (i := 62) rfl)) rfl
set_option maxRecDepth 100000 in
theorem kw_1503 : (Jvm.Cond.instanceMethod ({ cls := "LackFerryModel", name := "days", desc := "(I)I" } : Jvm.MethodName)) ∈ ab_G := ab_gm (tb_in7 (List.mem_of_getElem? (i := 63) rfl)) rfl
set_option maxRecDepth 100000 in
theorem kw_1504 : (Jvm.Cond.selects "LackFerryModel" ({ cls := "LackFerryModel", name := "days", desc := "(I)I" } : Jvm.MethodName) ({ cls := "LackFerryModel", name := "days", desc := "(I)I" } : Jvm.MethodName)) ∈ ab_G := ab_gm (tb_in7 (List.mem_of_getElem? (i := 64) rfl)) rfl
set_option maxRecDepth 100000 in
theorem kw_1505 : (Jvm.Cond.code ({ cls := "LackFerryModel", name := "days", desc := "(I)I" } : Jvm.MethodName) prog_13_method_62_code (2 : Nat) (Option.some Jvm.ClassFile.FieldType.int)) ∈ ab_G := ab_gm (tb_in7 (List.mem_of_getElem? (i := 65) rfl)) rfl
set_option maxRecDepth 100000 in
theorem kw_1506 : (Jvm.Cond.methodLink "LackFerryModel" (314 : Nat) ({ cls := "LackFerryModel", name := "goesOn", desc := "(I)I" } : Jvm.MethodName)) ∈ ab_G := ab_gm (tb_in7 (List.mem_of_getElem? (i := 66) rfl)) rfl
set_option maxRecDepth 100000 in
theorem kw_1508 : (Jvm.Cond.instanceMethod ({ cls := "LackFerryModel", name := "goesOn", desc := "(I)I" } : Jvm.MethodName)) ∈ ab_G := ab_gm (tb_in7 (List.mem_of_getElem? (i := 68) rfl)) rfl
set_option maxRecDepth 100000 in
theorem kw_1509 : (Jvm.Cond.code ({ cls := "LackFerryModel", name := "goesOn", desc := "(I)I" } : Jvm.MethodName) prog_13_method_54_code (3 : Nat) (Option.some Jvm.ClassFile.FieldType.int)) ∈ ab_G := ab_gm (tb_in7 (List.mem_of_getElem? (i := 69) rfl)) rfl
set_option maxRecDepth 100000 in
theorem kw_1510 : (Jvm.Cond.methodLink "LackFerryModel" (298 : Nat) ({ cls := "LackFerryModel", name := "day", desc := "()V" } : Jvm.MethodName)) ∈ ab_G := ab_gm (tb_in7 (List.mem_of_getElem? (i := 70) rfl)) rfl
set_option maxRecDepth 100000 in
theorem kw_1512 : (Jvm.Cond.instanceMethod ({ cls := "LackFerryModel", name := "day", desc := "()V" } : Jvm.MethodName)) ∈ ab_G := ab_gm (tb_in7 (List.mem_of_getElem? (i := 72) rfl)) rfl
set_option maxRecDepth 100000 in
theorem kw_1513 : (Jvm.Cond.code ({ cls := "LackFerryModel", name := "day", desc := "()V" } : Jvm.MethodName) prog_13_method_53_code (5 : Nat) (Option.none : Option Jvm.ClassFile.FieldType)) ∈ ab_G := ab_gm (tb_in7 (List.mem_of_getElem? (i := 73) rfl)) rfl
set_option maxRecDepth 100000 in
theorem kw_1514 : (Jvm.Cond.methodLink "LackFerryModel" (289 : Nat) ({ cls := "LackFerryModel", name := "goingSet", desc := "()I" } : Jvm.MethodName)) ∈ ab_G := ab_gm (tb_in7 (List.mem_of_getElem? (i := 74) rfl)) rfl
set_option maxRecDepth 100000 in
theorem kw_1516 : (Jvm.Cond.instanceMethod ({ cls := "LackFerryModel", name := "goingSet", desc := "()I" } : Jvm.MethodName)) ∈ ab_G := ab_gm (tb_in7 (List.mem_of_getElem? (i := 76) rfl)) rfl
set_option maxRecDepth 100000 in
theorem kw_1517 : (Jvm.Cond.code ({ cls := "LackFerryModel", name := "goingSet", desc := "()I" } : Jvm.MethodName) prog_13_method_50_code (4 : Nat) (Option.some Jvm.ClassFile.FieldType.int)) ∈ ab_G := ab_gm (tb_in7 (List.mem_of_getElem? (i := 77) rfl)) rfl
set_option maxRecDepth 100000 in
theorem kw_1518 : (Jvm.Cond.methodLink "LackFerryModel" (292 : Nat) ({ cls := "LackFerryModel", name := "goesOf", desc := "(I)I" } : Jvm.MethodName)) ∈ ab_G := ab_gm (tb_in7 (List.mem_of_getElem? (i := 78) rfl)) rfl
set_option maxRecDepth 100000 in
theorem kw_1520 : (Jvm.Cond.instanceMethod ({ cls := "LackFerryModel", name := "goesOf", desc := "(I)I" } : Jvm.MethodName)) ∈ ab_G := ab_gm (tb_in7 (List.mem_of_getElem? (i := 80) rfl)) rfl
set_option maxRecDepth 100000 in
theorem kw_1521 : (Jvm.Cond.code ({ cls := "LackFerryModel", name := "goesOf", desc := "(I)I" } : Jvm.MethodName) prog_13_method_51_code (3 : Nat) (Option.some Jvm.ClassFile.FieldType.int)) ∈ ab_G := ab_gm (tb_in7 (List.mem_of_getElem? (i := 81) rfl)) rfl
set_option maxRecDepth 100000 in
theorem kw_1522 : (Jvm.Cond.methodLink "LackFerryModel" (286 : Nat) ({ cls := "LackFerryModel", name := "lesser", desc := "(II)I" } : Jvm.MethodName)) ∈ ab_G := ab_gm (tb_in7 (List.mem_of_getElem? (i := 82) rfl)) rfl
set_option maxRecDepth 100000 in
theorem kw_1523 : (Jvm.Cond.static ({ cls := "LackFerryModel", name := "lesser", desc := "(II)I" } : Jvm.MethodName)) ∈ ab_G := ab_gm (tb_in7 (List.mem_of_getElem? (i := 83) rfl)) rfl
set_option maxRecDepth 100000 in
theorem kw_1524 : (Jvm.Cond.code ({ cls := "LackFerryModel", name := "lesser", desc := "(II)I" } : Jvm.MethodName) prog_13_method_9_code (2 : Nat) (Option.some Jvm.ClassFile.FieldType.int)) ∈ ab_G := ab_gm (tb_in7 (List.mem_of_getElem? (i := 84) rfl)) rfl
set_option maxRecDepth 100000 in
theorem kw_1525 : (Jvm.Cond.methodLink "LackFerryModel" (295 : Nat) ({ cls := "LackFerryModel", name := "eats", desc := "(I)V" } : Jvm.MethodName)) ∈ ab_G := ab_gm (tb_in7 (List.mem_of_getElem? (i := 85) rfl)) rfl
set_option maxRecDepth 100000 in
theorem kw_1527 : (Jvm.Cond.instanceMethod ({ cls := "LackFerryModel", name := "eats", desc := "(I)V" } : Jvm.MethodName)) ∈ ab_G := ab_gm (tb_in7 (List.mem_of_getElem? (i := 87) rfl)) rfl
set_option maxRecDepth 100000 in
theorem kw_1528 : (Jvm.Cond.code ({ cls := "LackFerryModel", name := "eats", desc := "(I)V" } : Jvm.MethodName) prog_13_method_52_code (3 : Nat) (Option.none : Option Jvm.ClassFile.FieldType)) ∈ ab_G := ab_gm (tb_in7 (List.mem_of_getElem? (i := 88) rfl)) rfl
set_option maxRecDepth 100000 in
theorem kw_1529 : (Jvm.Cond.methodLink "LackFerryLaw" (85 : Nat) ({ cls := "LackFerryModel", name := "undo", desc := "()I" } : Jvm.MethodName)) ∈ ab_G := ab_gm (tb_in7 (List.mem_of_getElem? (i := 89) rfl)) rfl
set_option maxRecDepth 100000 in
theorem kw_1530 : (Jvm.Cond.instanceMethod ({ cls := "LackFerryModel", name := "undo", desc := "()I" } : Jvm.MethodName)) ∈ ab_G := ab_gm (tb_in7 (List.mem_of_getElem? (i := 90) rfl)) rfl
set_option maxRecDepth 100000 in
theorem kw_1531 : (Jvm.Cond.selects "LackFerryModel" ({ cls := "LackFerryModel", name := "undo", desc := "()I" } : Jvm.MethodName) ({ cls := "LackFerryModel", name := "undo", desc := "()I" } : Jvm.MethodName)) ∈ ab_G := ab_gm (tb_in7 (List.mem_of_getElem? (i := 91) rfl)) rfl
set_option maxRecDepth 100000 in
theorem kw_1532 : (Jvm.Cond.code ({ cls := "LackFerryModel", name := "undo", desc := "()I" } : Jvm.MethodName) prog_13_method_64_code (2 : Nat) (Option.some Jvm.ClassFile.FieldType.int)) ∈ ab_G := ab_gm (tb_in7 (List.mem_of_getElem? (i := 92) rfl)) rfl
set_option maxRecDepth 100000 in
theorem kw_1533 : (Jvm.Cond.methodLink "LackFerryLaw" (89 : Nat) ({ cls := "LackFerryModel", name := "lacks", desc := "(I)I" } : Jvm.MethodName)) ∈ ab_G := ab_gm (tb_in7 (List.mem_of_getElem? (i := 93) rfl)) rfl
set_option maxRecDepth 100000 in
theorem kw_1534 : (Jvm.Cond.instanceMethod ({ cls := "LackFerryModel", name := "lacks", desc := "(I)I" } : Jvm.MethodName)) ∈ ab_G := ab_gm (tb_in7 (List.mem_of_getElem? (i := 94) rfl)) rfl
set_option maxRecDepth 100000 in
theorem kw_1535 : (Jvm.Cond.selects "LackFerryModel" ({ cls := "LackFerryModel", name := "lacks", desc := "(I)I" } : Jvm.MethodName) ({ cls := "LackFerryModel", name := "lacks", desc := "(I)I" } : Jvm.MethodName)) ∈ ab_G := ab_gm (tb_in7 (List.mem_of_getElem? (i := 95) rfl)) rfl
set_option maxRecDepth 100000 in
theorem kw_1536 : (Jvm.Cond.code ({ cls := "LackFerryModel", name := "lacks", desc := "(I)I" } : Jvm.MethodName) prog_13_method_67_code (4 : Nat) (Option.some Jvm.ClassFile.FieldType.int)) ∈ ab_G := ab_gm (tb_in7 (List.mem_of_getElem? (i := 96) rfl)) rfl
set_option maxRecDepth 100000 in
theorem kw_1537 : (Jvm.Cond.methodLink "LackFerryLaw" (93 : Nat) ({ cls := "LackFerryModel", name := "falses", desc := "(I)I" } : Jvm.MethodName)) ∈ ab_G := ab_gm (tb_in7 (List.mem_of_getElem? (i := 97) rfl)) rfl
set_option maxRecDepth 100000 in
theorem kw_1538 : (Jvm.Cond.instanceMethod ({ cls := "LackFerryModel", name := "falses", desc := "(I)I" } : Jvm.MethodName)) ∈ ab_G := ab_gm (tb_in7 (List.mem_of_getElem? (i := 98) rfl)) rfl
set_option maxRecDepth 100000 in
theorem kw_1539 : (Jvm.Cond.selects "LackFerryModel" ({ cls := "LackFerryModel", name := "falses", desc := "(I)I" } : Jvm.MethodName) ({ cls := "LackFerryModel", name := "falses", desc := "(I)I" } : Jvm.MethodName)) ∈ ab_G := ab_gm (tb_in7 (List.mem_of_getElem? (i := 99) rfl)) rfl
set_option maxRecDepth 100000 in
theorem kw_1540 : (Jvm.Cond.code ({ cls := "LackFerryModel", name := "falses", desc := "(I)I" } : Jvm.MethodName) prog_13_method_68_code (4 : Nat) (Option.some Jvm.ClassFile.FieldType.int)) ∈ ab_G := ab_gm (tb_in7 (List.mem_of_getElem? (i := 100) rfl)) rfl
set_option maxRecDepth 100000 in
theorem kw_1541 : (Jvm.Cond.methodLink "LackFerryLaw" (97 : Nat) ({ cls := "LackFerryModel", name := "going", desc := "()I" } : Jvm.MethodName)) ∈ ab_G := ab_gm (tb_in7 (List.mem_of_getElem? (i := 101) rfl)) rfl
set_option maxRecDepth 100000 in
theorem kw_1542 : (Jvm.Cond.instanceMethod ({ cls := "LackFerryModel", name := "going", desc := "()I" } : Jvm.MethodName)) ∈ ab_G := ab_gm (tb_in7 (List.mem_of_getElem? (i := 102) rfl)) rfl
set_option maxRecDepth 100000 in
theorem kw_1543 : (Jvm.Cond.selects "LackFerryModel" ({ cls := "LackFerryModel", name := "going", desc := "()I" } : Jvm.MethodName) ({ cls := "LackFerryModel", name := "going", desc := "()I" } : Jvm.MethodName)) ∈ ab_G := ab_gm (tb_in7 (List.mem_of_getElem? (i := 103) rfl)) rfl
set_option maxRecDepth 100000 in
theorem kw_1544 : (Jvm.Cond.code ({ cls := "LackFerryModel", name := "going", desc := "()I" } : Jvm.MethodName) prog_13_method_69_code (1 : Nat) (Option.some Jvm.ClassFile.FieldType.int)) ∈ ab_G := ab_gm (tb_in7 (List.mem_of_getElem? (i := 104) rfl)) rfl
set_option maxRecDepth 100000 in
theorem kw_1545 : (Jvm.Cond.methodLink "LackFerryLaw" (101 : Nat) ({ cls := "LackFerryModel", name := "goes", desc := "(I)I" } : Jvm.MethodName)) ∈ ab_G := ab_gm (tb_in7 (List.mem_of_getElem? (i := 105) rfl)) rfl
set_option maxRecDepth 100000 in
theorem kw_1546 : (Jvm.Cond.instanceMethod ({ cls := "LackFerryModel", name := "goes", desc := "(I)I" } : Jvm.MethodName)) ∈ ab_G := ab_gm (tb_in7 (List.mem_of_getElem? (i := 106) rfl)) rfl
set_option maxRecDepth 100000 in
theorem kw_1547 : (Jvm.Cond.selects "LackFerryModel" ({ cls := "LackFerryModel", name := "goes", desc := "(I)I" } : Jvm.MethodName) ({ cls := "LackFerryModel", name := "goes", desc := "(I)I" } : Jvm.MethodName)) ∈ ab_G := ab_gm (tb_in7 (List.mem_of_getElem? (i := 107) rfl)) rfl
set_option maxRecDepth 100000 in
theorem kw_1548 : (Jvm.Cond.code ({ cls := "LackFerryModel", name := "goes", desc := "(I)I" } : Jvm.MethodName) prog_13_method_70_code (3 : Nat) (Option.some Jvm.ClassFile.FieldType.int)) ∈ ab_G := ab_gm (tb_in7 (List.mem_of_getElem? (i := 108) rfl)) rfl
set_option maxRecDepth 100000 in
theorem kw_1549 : (Jvm.Cond.methodLink "LackFerryLaw" (105 : Nat) ({ cls := "LackFerryModel", name := "crosses", desc := "(I)I" } : Jvm.MethodName)) ∈ ab_G := ab_gm (tb_in7 (List.mem_of_getElem? (i := 109) rfl)) rfl
set_option maxRecDepth 100000 in
theorem kw_1550 : (Jvm.Cond.instanceMethod ({ cls := "LackFerryModel", name := "crosses", desc := "(I)I" } : Jvm.MethodName)) ∈ ab_G := ab_gm (tb_in7 (List.mem_of_getElem? (i := 110) rfl)) rfl
set_option maxRecDepth 100000 in
theorem kw_1551 : (Jvm.Cond.selects "LackFerryModel" ({ cls := "LackFerryModel", name := "crosses", desc := "(I)I" } : Jvm.MethodName) ({ cls := "LackFerryModel", name := "crosses", desc := "(I)I" } : Jvm.MethodName)) ∈ ab_G := ab_gm (tb_in7 (List.mem_of_getElem? (i := 111) rfl)) rfl
set_option maxRecDepth 100000 in
theorem kw_1552 : (Jvm.Cond.code ({ cls := "LackFerryModel", name := "crosses", desc := "(I)I" } : Jvm.MethodName) prog_13_method_71_code (5 : Nat) (Option.some Jvm.ClassFile.FieldType.int)) ∈ ab_G := ab_gm (tb_in7 (List.mem_of_getElem? (i := 112) rfl)) rfl
set_option maxRecDepth 100000 in
theorem kw_1553 : (Jvm.Cond.methodLink "LackFerryModel" (317 : Nat) ({ cls := "LackFerryModel", name := "tries", desc := "()V" } : Jvm.MethodName)) ∈ ab_G := ab_gm (tb_in7 (List.mem_of_getElem? (i := 113) rfl)) rfl
set_option maxRecDepth 100000 in
theorem kw_1555 : (Jvm.Cond.instanceMethod ({ cls := "LackFerryModel", name := "tries", desc := "()V" } : Jvm.MethodName)) ∈ ab_G := ab_gm (tb_in7 (List.mem_of_getElem? (i := 115) rfl)) rfl
set_option maxRecDepth 100000 in
theorem kw_1556 : (Jvm.Cond.code ({ cls := "LackFerryModel", name := "tries", desc := "()V" } : Jvm.MethodName) prog_13_method_65_code (2 : Nat) (Option.none : Option Jvm.ClassFile.FieldType)) ∈ ab_G := ab_gm (tb_in7 (List.mem_of_getElem? (i := 116) rfl)) rfl
set_option maxRecDepth 100000 in
theorem kw_1557 : (Jvm.Cond.methodLink "LackFerryModel" (320 : Nat) ({ cls := "LackFerryModel", name := "back", desc := "()V" } : Jvm.MethodName)) ∈ ab_G := ab_gm (tb_in7 (List.mem_of_getElem? (i := 117) rfl)) rfl
set_option maxRecDepth 100000 in
theorem kw_1559 : (Jvm.Cond.instanceMethod ({ cls := "LackFerryModel", name := "back", desc := "()V" } : Jvm.MethodName)) ∈ ab_G := ab_gm (tb_in7 (List.mem_of_getElem? (i := 119) rfl)) rfl
set_option maxRecDepth 100000 in
theorem kw_1560 : (Jvm.Cond.code ({ cls := "LackFerryModel", name := "back", desc := "()V" } : Jvm.MethodName) prog_13_method_66_code (2 : Nat) (Option.none : Option Jvm.ClassFile.FieldType)) ∈ ab_G := ab_gm (tb_in7 (List.mem_of_getElem? (i := 120) rfl)) rfl
set_option maxRecDepth 100000 in
theorem kw_1561 : (Jvm.Cond.methodLink "LackFerryLaw" (109 : Nat) ({ cls := "LackFerryModel", name := "comes", desc := "(II)I" } : Jvm.MethodName)) ∈ ab_G := ab_gm (tb_in7 (List.mem_of_getElem? (i := 121) rfl)) rfl
set_option maxRecDepth 100000 in
theorem kw_1562 : (Jvm.Cond.instanceMethod ({ cls := "LackFerryModel", name := "comes", desc := "(II)I" } : Jvm.MethodName)) ∈ ab_G := ab_gm (tb_in7 (List.mem_of_getElem? (i := 122) rfl)) rfl
set_option maxRecDepth 100000 in
theorem kw_1563 : (Jvm.Cond.selects "LackFerryModel" ({ cls := "LackFerryModel", name := "comes", desc := "(II)I" } : Jvm.MethodName) ({ cls := "LackFerryModel", name := "comes", desc := "(II)I" } : Jvm.MethodName)) ∈ ab_G := ab_gm (tb_in7 (List.mem_of_getElem? (i := 123) rfl)) rfl
set_option maxRecDepth 100000 in
theorem kw_1564 : (Jvm.Cond.code ({ cls := "LackFerryModel", name := "comes", desc := "(II)I" } : Jvm.MethodName) prog_13_method_72_code (6 : Nat) (Option.some Jvm.ClassFile.FieldType.int)) ∈ ab_G := ab_gm (tb_in7 (List.mem_of_getElem? (i := 124) rfl)) rfl
set_option maxRecDepth 100000 in
theorem kw_1565 : (Jvm.Cond.methodLink "LackFerryLaw" (114 : Nat) ({ cls := "LackFerryModel", name := "without", desc := "(IIII)I" } : Jvm.MethodName)) ∈ ab_G := ab_gm (tb_in7 (List.mem_of_getElem? (i := 125) rfl)) rfl
set_option maxRecDepth 100000 in
theorem kw_1566 : (Jvm.Cond.instanceMethod ({ cls := "LackFerryModel", name := "without", desc := "(IIII)I" } : Jvm.MethodName)) ∈ ab_G := ab_gm (tb_in7 (List.mem_of_getElem? (i := 126) rfl)) rfl
set_option maxRecDepth 100000 in
theorem kw_1567 : (Jvm.Cond.selects "LackFerryModel" ({ cls := "LackFerryModel", name := "without", desc := "(IIII)I" } : Jvm.MethodName) ({ cls := "LackFerryModel", name := "without", desc := "(IIII)I" } : Jvm.MethodName)) ∈ ab_G := ab_gm (tb_in7 (List.mem_of_getElem? (i := 127) rfl)) rfl
set_option maxRecDepth 100000 in
theorem kw_1568 : (Jvm.Cond.code ({ cls := "LackFerryModel", name := "without", desc := "(IIII)I" } : Jvm.MethodName) prog_13_method_73_code (10 : Nat) (Option.some Jvm.ClassFile.FieldType.int)) ∈ ab_G := ab_gm (tb_in7 (List.mem_of_getElem? (i := 128) rfl)) rfl
set_option maxRecDepth 100000 in
theorem kw_1569 : (Jvm.Cond.methodLink "LackFerryLaw" (118 : Nat) ({ cls := "LackFerryModel", name := "meet", desc := "(II)I" } : Jvm.MethodName)) ∈ ab_G := ab_gm (tb_in7 (List.mem_of_getElem? (i := 129) rfl)) rfl
set_option maxRecDepth 100000 in
theorem kw_1570 : (Jvm.Cond.instanceMethod ({ cls := "LackFerryModel", name := "meet", desc := "(II)I" } : Jvm.MethodName)) ∈ ab_G := ab_gm (tb_in7 (List.mem_of_getElem? (i := 130) rfl)) rfl
set_option maxRecDepth 100000 in
theorem kw_1571 : (Jvm.Cond.selects "LackFerryModel" ({ cls := "LackFerryModel", name := "meet", desc := "(II)I" } : Jvm.MethodName) ({ cls := "LackFerryModel", name := "meet", desc := "(II)I" } : Jvm.MethodName)) ∈ ab_G := ab_gm (tb_in7 (List.mem_of_getElem? (i := 131) rfl)) rfl
set_option maxRecDepth 100000 in
theorem kw_1572 : (Jvm.Cond.code ({ cls := "LackFerryModel", name := "meet", desc := "(II)I" } : Jvm.MethodName) prog_13_method_74_code (5 : Nat) (Option.some Jvm.ClassFile.FieldType.int)) ∈ ab_G := ab_gm (tb_in7 (List.mem_of_getElem? (i := 132) rfl)) rfl
set_option maxRecDepth 100000 in
theorem kw_1573 : (Jvm.Cond.methodLink "LackFerryLaw" (122 : Nat) ({ cls := "LackFerryModel", name := "loads", desc := "(I)I" } : Jvm.MethodName)) ∈ ab_G := ab_gm (tb_in7 (List.mem_of_getElem? (i := 133) rfl)) rfl
set_option maxRecDepth 100000 in
theorem kw_1574 : (Jvm.Cond.instanceMethod ({ cls := "LackFerryModel", name := "loads", desc := "(I)I" } : Jvm.MethodName)) ∈ ab_G := ab_gm (tb_in7 (List.mem_of_getElem? (i := 134) rfl)) rfl
set_option maxRecDepth 100000 in
theorem kw_1575 : (Jvm.Cond.selects "LackFerryModel" ({ cls := "LackFerryModel", name := "loads", desc := "(I)I" } : Jvm.MethodName) ({ cls := "LackFerryModel", name := "loads", desc := "(I)I" } : Jvm.MethodName)) ∈ ab_G := ab_gm (tb_in7 (List.mem_of_getElem? (i := 135) rfl)) rfl
set_option maxRecDepth 100000 in
theorem kw_1576 : (Jvm.Cond.code ({ cls := "LackFerryModel", name := "loads", desc := "(I)I" } : Jvm.MethodName) prog_13_method_75_code (4 : Nat) (Option.some Jvm.ClassFile.FieldType.int)) ∈ ab_G := ab_gm (tb_in7 (List.mem_of_getElem? (i := 136) rfl)) rfl
set_option maxRecDepth 100000 in
theorem kw_1577 : (Jvm.Cond.methodLink "LackFerryLaw" (126 : Nat) ({ cls := "LackFerryModel", name := "which", desc := "()I" } : Jvm.MethodName)) ∈ ab_G := ab_gm (tb_in7 (List.mem_of_getElem? (i := 137) rfl)) rfl
set_option maxRecDepth 100000 in
theorem kw_1578 : (Jvm.Cond.instanceMethod ({ cls := "LackFerryModel", name := "which", desc := "()I" } : Jvm.MethodName)) ∈ ab_G := ab_gm (tb_in7 (List.mem_of_getElem? (i := 138) rfl)) rfl
set_option maxRecDepth 100000 in
theorem kw_1579 : (Jvm.Cond.selects "LackFerryModel" ({ cls := "LackFerryModel", name := "which", desc := "()I" } : Jvm.MethodName) ({ cls := "LackFerryModel", name := "which", desc := "()I" } : Jvm.MethodName)) ∈ ab_G := ab_gm (tb_in7 (List.mem_of_getElem? (i := 139) rfl)) rfl
set_option maxRecDepth 100000 in
theorem kw_1580 : (Jvm.Cond.code ({ cls := "LackFerryModel", name := "which", desc := "()I" } : Jvm.MethodName) prog_13_method_76_code (7 : Nat) (Option.some Jvm.ClassFile.FieldType.int)) ∈ ab_G := ab_gm (tb_in7 (List.mem_of_getElem? (i := 140) rfl)) rfl
set_option maxRecDepth 100000 in
theorem kw_1581 : (Jvm.Cond.methodLink "LackFerryModel" (323 : Nat) ({ cls := "LackFerryModel", name := "octet", desc := "(I)I" } : Jvm.MethodName)) ∈ ab_G := ab_gm (tb_in7 (List.mem_of_getElem? (i := 141) rfl)) rfl
set_option maxRecDepth 100000 in
theorem kw_1583 : (Jvm.Cond.instanceMethod ({ cls := "LackFerryModel", name := "octet", desc := "(I)I" } : Jvm.MethodName)) ∈ ab_G := ab_gm (tb_in7 (List.mem_of_getElem? (i := 143) rfl)) rfl
set_option maxRecDepth 100000 in
theorem kw_1584 : (Jvm.Cond.code ({ cls := "LackFerryModel", name := "octet", desc := "(I)I" } : Jvm.MethodName) prog_13_method_11_code (2 : Nat) (Option.some Jvm.ClassFile.FieldType.int)) ∈ ab_G := ab_gm (tb_in7 (List.mem_of_getElem? (i := 144) rfl)) rfl
set_option maxRecDepth 100000 in
theorem kw_1585 : (Jvm.Cond.methodLink "LackFerryLaw" (130 : Nat) ({ cls := "LackFerryModel", name := "settles", desc := "()I" } : Jvm.MethodName)) ∈ ab_G := ab_gm (tb_in7 (List.mem_of_getElem? (i := 145) rfl)) rfl
set_option maxRecDepth 100000 in
theorem kw_1586 : (Jvm.Cond.instanceMethod ({ cls := "LackFerryModel", name := "settles", desc := "()I" } : Jvm.MethodName)) ∈ ab_G := ab_gm (tb_in7 (List.mem_of_getElem? (i := 146) rfl)) rfl
set_option maxRecDepth 100000 in
theorem kw_1587 : (Jvm.Cond.selects "LackFerryModel" ({ cls := "LackFerryModel", name := "settles", desc := "()I" } : Jvm.MethodName) ({ cls := "LackFerryModel", name := "settles", desc := "()I" } : Jvm.MethodName)) ∈ ab_G := ab_gm (tb_in7 (List.mem_of_getElem? (i := 147) rfl)) rfl
set_option maxRecDepth 100000 in
theorem kw_1588 : (Jvm.Cond.code ({ cls := "LackFerryModel", name := "settles", desc := "()I" } : Jvm.MethodName) prog_13_method_79_code (3 : Nat) (Option.some Jvm.ClassFile.FieldType.int)) ∈ ab_G := ab_gm (tb_in7 (List.mem_of_getElem? (i := 148) rfl)) rfl
set_option maxRecDepth 100000 in
theorem kw_1589 : (Jvm.Cond.methodLink "LackFerryModel" (326 : Nat) ({ cls := "LackFerryModel", name := "lays", desc := "(I)V" } : Jvm.MethodName)) ∈ ab_G := ab_gm (tb_in7 (List.mem_of_getElem? (i := 149) rfl)) rfl
set_option maxRecDepth 100000 in
theorem kw_1591 : (Jvm.Cond.instanceMethod ({ cls := "LackFerryModel", name := "lays", desc := "(I)V" } : Jvm.MethodName)) ∈ ab_G := ab_gm (tb_in7 (List.mem_of_getElem? (i := 151) rfl)) rfl
set_option maxRecDepth 100000 in
theorem kw_1592 : (Jvm.Cond.code ({ cls := "LackFerryModel", name := "lays", desc := "(I)V" } : Jvm.MethodName) prog_13_method_77_code (3 : Nat) (Option.none : Option Jvm.ClassFile.FieldType)) ∈ ab_G := ab_gm (tb_in7 (List.mem_of_getElem? (i := 152) rfl)) rfl
set_option maxRecDepth 100000 in
theorem kw_1593 : (Jvm.Cond.methodLink "LackFerryModel" (329 : Nat) ({ cls := "LackFerryModel", name := "areAlike", desc := "(II)Z" } : Jvm.MethodName)) ∈ ab_G := ab_gm (tb_in7 (List.mem_of_getElem? (i := 153) rfl)) rfl
set_option maxRecDepth 100000 in
theorem kw_1595 : (Jvm.Cond.instanceMethod ({ cls := "LackFerryModel", name := "areAlike", desc := "(II)Z" } : Jvm.MethodName)) ∈ ab_G := ab_gm (tb_in7 (List.mem_of_getElem? (i := 155) rfl)) rfl
set_option maxRecDepth 100000 in
theorem kw_1596 : (Jvm.Cond.code ({ cls := "LackFerryModel", name := "areAlike", desc := "(II)Z" } : Jvm.MethodName) prog_13_method_78_code (4 : Nat) (Option.some Jvm.ClassFile.FieldType.boolean)) ∈ ab_G := ab_gm (tb_in7 (List.mem_of_getElem? (i := 156) rfl)) rfl
set_option maxRecDepth 100000 in
theorem kw_1597 : (Jvm.Cond.methodLink "LackFerryLaw" (134 : Nat) ({ cls := "LackFerryModel", name := "hunger", desc := "(III)I" } : Jvm.MethodName)) ∈ ab_G := ab_gm (tb_in7 (List.mem_of_getElem? (i := 157) rfl)) rfl
set_option maxRecDepth 100000 in
theorem kw_1598 : (Jvm.Cond.instanceMethod ({ cls := "LackFerryModel", name := "hunger", desc := "(III)I" } : Jvm.MethodName)) ∈ ab_G := ab_gm (tb_in7 (List.mem_of_getElem? (i := 158) rfl)) rfl
set_option maxRecDepth 100000 in
theorem kw_1599 : (Jvm.Cond.selects "LackFerryModel" ({ cls := "LackFerryModel", name := "hunger", desc := "(III)I" } : Jvm.MethodName) ({ cls := "LackFerryModel", name := "hunger", desc := "(III)I" } : Jvm.MethodName)) ∈ ab_G := ab_gm (tb_in7 (List.mem_of_getElem? (i := 159) rfl)) rfl
set_option maxRecDepth 100000 in
theorem kw_1600 : (Jvm.Cond.code ({ cls := "LackFerryModel", name := "hunger", desc := "(III)I" } : Jvm.MethodName) prog_13_method_80_code (6 : Nat) (Option.some Jvm.ClassFile.FieldType.int)) ∈ ab_G := ab_gm (tb_in7 (List.mem_of_getElem? (i := 160) rfl)) rfl
set_option maxRecDepth 100000 in
theorem kw_1601 : (Jvm.Cond.methodLink "LackFerryLaw" (138 : Nat) ({ cls := "LackFerryModel", name := "prices", desc := "()I" } : Jvm.MethodName)) ∈ ab_G := ab_gm (tb_in7 (List.mem_of_getElem? (i := 161) rfl)) rfl
set_option maxRecDepth 100000 in
theorem kw_1602 : (Jvm.Cond.instanceMethod ({ cls := "LackFerryModel", name := "prices", desc := "()I" } : Jvm.MethodName)) ∈ ab_G := ab_gm (tb_in7 (List.mem_of_getElem? (i := 162) rfl)) rfl
set_option maxRecDepth 100000 in
theorem kw_1603 : (Jvm.Cond.selects "LackFerryModel" ({ cls := "LackFerryModel", name := "prices", desc := "()I" } : Jvm.MethodName) ({ cls := "LackFerryModel", name := "prices", desc := "()I" } : Jvm.MethodName)) ∈ ab_G := ab_gm (tb_in7 (List.mem_of_getElem? (i := 163) rfl)) rfl
set_option maxRecDepth 100000 in
theorem kw_1604 : (Jvm.Cond.code ({ cls := "LackFerryModel", name := "prices", desc := "()I" } : Jvm.MethodName) prog_13_method_81_code (5 : Nat) (Option.some Jvm.ClassFile.FieldType.int)) ∈ ab_G := ab_gm (tb_in7 (List.mem_of_getElem? (i := 164) rfl)) rfl
set_option maxRecDepth 100000 in
theorem kw_1605 : (Jvm.Cond.methodLink "LackFerryLaw" (142 : Nat) ({ cls := "LackFerryModel", name := "price", desc := "(II)I" } : Jvm.MethodName)) ∈ ab_G := ab_gm (tb_in7 (List.mem_of_getElem? (i := 165) rfl)) rfl
set_option maxRecDepth 100000 in
theorem kw_1606 : (Jvm.Cond.instanceMethod ({ cls := "LackFerryModel", name := "price", desc := "(II)I" } : Jvm.MethodName)) ∈ ab_G := ab_gm (tb_in7 (List.mem_of_getElem? (i := 166) rfl)) rfl
set_option maxRecDepth 100000 in
theorem kw_1607 : (Jvm.Cond.selects "LackFerryModel" ({ cls := "LackFerryModel", name := "price", desc := "(II)I" } : Jvm.MethodName) ({ cls := "LackFerryModel", name := "price", desc := "(II)I" } : Jvm.MethodName)) ∈ ab_G := ab_gm (tb_in7 (List.mem_of_getElem? (i := 167) rfl)) rfl
set_option maxRecDepth 100000 in
theorem kw_1608 : (Jvm.Cond.code ({ cls := "LackFerryModel", name := "price", desc := "(II)I" } : Jvm.MethodName) prog_13_method_82_code (3 : Nat) (Option.some Jvm.ClassFile.FieldType.int)) ∈ ab_G := ab_gm (tb_in7 (List.mem_of_getElem? (i := 168) rfl)) rfl
set_option maxRecDepth 100000 in
theorem kw_1609 : (Jvm.Cond.methodLink "LackFerryLaw" (146 : Nat) ({ cls := "LackFerryModel", name := "dearest", desc := "()I" } : Jvm.MethodName)) ∈ ab_G := ab_gm (tb_in7 (List.mem_of_getElem? (i := 169) rfl)) rfl
set_option maxRecDepth 100000 in
theorem kw_1610 : (Jvm.Cond.instanceMethod ({ cls := "LackFerryModel", name := "dearest", desc := "()I" } : Jvm.MethodName)) ∈ ab_G := ab_gm (tb_in7 (List.mem_of_getElem? (i := 170) rfl)) rfl
set_option maxRecDepth 100000 in
theorem kw_1611 : (Jvm.Cond.selects "LackFerryModel" ({ cls := "LackFerryModel", name := "dearest", desc := "()I" } : Jvm.MethodName) ({ cls := "LackFerryModel", name := "dearest", desc := "()I" } : Jvm.MethodName)) ∈ ab_G := ab_gm (tb_in7 (List.mem_of_getElem? (i := 171) rfl)) rfl
set_option maxRecDepth 100000 in
theorem kw_1612 : (Jvm.Cond.code ({ cls := "LackFerryModel", name := "dearest", desc := "()I" } : Jvm.MethodName) prog_13_method_83_code (4 : Nat) (Option.some Jvm.ClassFile.FieldType.int)) ∈ ab_G := ab_gm (tb_in7 (List.mem_of_getElem? (i := 172) rfl)) rfl
set_option maxRecDepth 100000 in
theorem kw_1613 : (Jvm.Cond.methodLink "LackFerryModel" (332 : Nat) ({ cls := "LackFerryModel", name := "bits", desc := "(I)I" } : Jvm.MethodName)) ∈ ab_G := ab_gm (tb_in7 (List.mem_of_getElem? (i := 173) rfl)) rfl
set_option maxRecDepth 100000 in
theorem kw_1614 : (Jvm.Cond.static ({ cls := "LackFerryModel", name := "bits", desc := "(I)I" } : Jvm.MethodName)) ∈ ab_G := ab_gm (tb_in7 (List.mem_of_getElem? (i := 174) rfl)) rfl
set_option maxRecDepth 100000 in
theorem kw_1615 : (Jvm.Cond.code ({ cls := "LackFerryModel", name := "bits", desc := "(I)I" } : Jvm.MethodName) prog_13_method_10_code (3 : Nat) (Option.some Jvm.ClassFile.FieldType.int)) ∈ ab_G := ab_gm (tb_in7 (List.mem_of_getElem? (i := 175) rfl)) rfl
set_option maxRecDepth 100000 in
theorem kw_1616 : (Jvm.Cond.methodLink "LackFerryLaw" (150 : Nat) ({ cls := "LackFerryModel", name := "rats", desc := "()I" } : Jvm.MethodName)) ∈ ab_G := ab_gm (tb_in7 (List.mem_of_getElem? (i := 176) rfl)) rfl
set_option maxRecDepth 100000 in
theorem kw_1617 : (Jvm.Cond.instanceMethod ({ cls := "LackFerryModel", name := "rats", desc := "()I" } : Jvm.MethodName)) ∈ ab_G := ab_gm (tb_in7 (List.mem_of_getElem? (i := 177) rfl)) rfl
set_option maxRecDepth 100000 in
theorem kw_1618 : (Jvm.Cond.selects "LackFerryModel" ({ cls := "LackFerryModel", name := "rats", desc := "()I" } : Jvm.MethodName) ({ cls := "LackFerryModel", name := "rats", desc := "()I" } : Jvm.MethodName)) ∈ ab_G := ab_gm (tb_in7 (List.mem_of_getElem? (i := 178) rfl)) rfl
set_option maxRecDepth 100000 in
theorem kw_1619 : (Jvm.Cond.code ({ cls := "LackFerryModel", name := "rats", desc := "()I" } : Jvm.MethodName) prog_13_method_84_code (3 : Nat) (Option.some Jvm.ClassFile.FieldType.int)) ∈ ab_G := ab_gm (tb_in7 (List.mem_of_getElem? (i := 179) rfl)) rfl
set_option maxRecDepth 100000 in
theorem kw_1620 : (Jvm.Cond.methodLink "LackFerryLaw" (154 : Nat) ({ cls := "LackFerryModel", name := "hoarded", desc := "(I)I" } : Jvm.MethodName)) ∈ ab_G := ab_gm (tb_in7 (List.mem_of_getElem? (i := 180) rfl)) rfl
set_option maxRecDepth 100000 in
theorem kw_1621 : (Jvm.Cond.instanceMethod ({ cls := "LackFerryModel", name := "hoarded", desc := "(I)I" } : Jvm.MethodName)) ∈ ab_G := ab_gm (tb_in7 (List.mem_of_getElem? (i := 181) rfl)) rfl
set_option maxRecDepth 100000 in
theorem kw_1622 : (Jvm.Cond.selects "LackFerryModel" ({ cls := "LackFerryModel", name := "hoarded", desc := "(I)I" } : Jvm.MethodName) ({ cls := "LackFerryModel", name := "hoarded", desc := "(I)I" } : Jvm.MethodName)) ∈ ab_G := ab_gm (tb_in7 (List.mem_of_getElem? (i := 182) rfl)) rfl
set_option maxRecDepth 100000 in
theorem kw_1623 : (Jvm.Cond.code ({ cls := "LackFerryModel", name := "hoarded", desc := "(I)I" } : Jvm.MethodName) prog_13_method_85_code (5 : Nat) (Option.some Jvm.ClassFile.FieldType.int)) ∈ ab_G := ab_gm (tb_in7 (List.mem_of_getElem? (i := 183) rfl)) rfl
set_option maxRecDepth 100000 in
theorem kw_1624 : (Jvm.Cond.methodLink "LackFerryLaw" (158 : Nat) ({ cls := "LackFerryModel", name := "drawn", desc := "(II)I" } : Jvm.MethodName)) ∈ ab_G := ab_gm (tb_in7 (List.mem_of_getElem? (i := 184) rfl)) rfl
set_option maxRecDepth 100000 in
theorem kw_1625 : (Jvm.Cond.instanceMethod ({ cls := "LackFerryModel", name := "drawn", desc := "(II)I" } : Jvm.MethodName)) ∈ ab_G := ab_gm (tb_in7 (List.mem_of_getElem? (i := 185) rfl)) rfl
set_option maxRecDepth 100000 in
theorem kw_1626 : (Jvm.Cond.selects "LackFerryModel" ({ cls := "LackFerryModel", name := "drawn", desc := "(II)I" } : Jvm.MethodName) ({ cls := "LackFerryModel", name := "drawn", desc := "(II)I" } : Jvm.MethodName)) ∈ ab_G := ab_gm (tb_in7 (List.mem_of_getElem? (i := 186) rfl)) rfl
set_option maxRecDepth 100000 in
theorem kw_1627 : (Jvm.Cond.code ({ cls := "LackFerryModel", name := "drawn", desc := "(II)I" } : Jvm.MethodName) prog_13_method_89_code (3 : Nat) (Option.some Jvm.ClassFile.FieldType.int)) ∈ ab_G := ab_gm (tb_in7 (List.mem_of_getElem? (i := 187) rfl)) rfl
set_option maxRecDepth 100000 in
theorem kw_1628 : (Jvm.Cond.methodLink "LackFerryModel" (345 : Nat) ({ cls := "LackFerryModel", name := "draws", desc := "(II)I" } : Jvm.MethodName)) ∈ ab_G := ab_gm (tb_in7 (List.mem_of_getElem? (i := 188) rfl)) rfl
set_option maxRecDepth 100000 in
theorem kw_1630 : (Jvm.Cond.instanceMethod ({ cls := "LackFerryModel", name := "draws", desc := "(II)I" } : Jvm.MethodName)) ∈ ab_G := ab_gm (tb_in7 (List.mem_of_getElem? (i := 190) rfl)) rfl
set_option maxRecDepth 100000 in
theorem kw_1631 : (Jvm.Cond.code ({ cls := "LackFerryModel", name := "draws", desc := "(II)I" } : Jvm.MethodName) prog_13_method_88_code (4 : Nat) (Option.some Jvm.ClassFile.FieldType.int)) ∈ ab_G := ab_gm (tb_in7 (List.mem_of_getElem? (i := 191) rfl)) rfl
set_option maxRecDepth 100000 in
theorem kw_1632 : (Jvm.Cond.methodLink "LackFerryModel" (342 : Nat) ({ cls := "LackFerryModel", name := "drawsDay", desc := "()V" } : Jvm.MethodName)) ∈ ab_G := ab_gm (tb_in7 (List.mem_of_getElem? (i := 192) rfl)) rfl
set_option maxRecDepth 100000 in
theorem kw_1634 : (Jvm.Cond.instanceMethod ({ cls := "LackFerryModel", name := "drawsDay", desc := "()V" } : Jvm.MethodName)) ∈ ab_G := ab_gm (tb_in7 (List.mem_of_getElem? (i := 194) rfl)) rfl
set_option maxRecDepth 100000 in
theorem kw_1635 : (Jvm.Cond.code ({ cls := "LackFerryModel", name := "drawsDay", desc := "()V" } : Jvm.MethodName) prog_13_method_87_code (5 : Nat) (Option.none : Option Jvm.ClassFile.FieldType)) ∈ ab_G := ab_gm (tb_in7 (List.mem_of_getElem? (i := 195) rfl)) rfl
set_option maxRecDepth 100000 in
theorem kw_1636 : (Jvm.Cond.methodLink "LackFerryModel" (339 : Nat) ({ cls := "LackFerryModel", name := "draw", desc := "(I)I" } : Jvm.MethodName)) ∈ ab_G := ab_gm (tb_in7 (List.mem_of_getElem? (i := 196) rfl)) rfl
set_option maxRecDepth 100000 in
theorem kw_1638 : (Jvm.Cond.instanceMethod ({ cls := "LackFerryModel", name := "draw", desc := "(I)I" } : Jvm.MethodName)) ∈ ab_G := ab_gm (tb_in7 (List.mem_of_getElem? (i := 198) rfl)) rfl
set_option maxRecDepth 100000 in
theorem kw_1639 : (Jvm.Cond.code ({ cls := "LackFerryModel", name := "draw", desc := "(I)I" } : Jvm.MethodName) prog_13_method_86_code (2 : Nat) (Option.some Jvm.ClassFile.FieldType.int)) ∈ ab_G := ab_gm (tb_in7 (List.mem_of_getElem? (i := 199) rfl)) rfl
set_option maxRecDepth 100000 in
theorem kw_1640 : (Jvm.Cond.constant "LackFerryModel" (338 : Nat) (1103515245 : Int32)) ∈ ab_G := ab_gm (tb_in7 (List.mem_of_getElem? (i := 200) rfl)) rfl
set_option maxRecDepth 100000 in
theorem kw_1641 : (Jvm.Cond.methodLink "LackFerryLaw" (162 : Nat) ({ cls := "LackFerryModel", name := "odds", desc := "(III)I" } : Jvm.MethodName)) ∈ ab_G := ab_gm (tb_in7 (List.mem_of_getElem? (i := 201) rfl)) rfl
set_option maxRecDepth 100000 in
theorem kw_1642 : (Jvm.Cond.instanceMethod ({ cls := "LackFerryModel", name := "odds", desc := "(III)I" } : Jvm.MethodName)) ∈ ab_G := ab_gm (tb_in7 (List.mem_of_getElem? (i := 202) rfl)) rfl
set_option maxRecDepth 100000 in
theorem kw_1643 : (Jvm.Cond.selects "LackFerryModel" ({ cls := "LackFerryModel", name := "odds", desc := "(III)I" } : Jvm.MethodName) ({ cls := "LackFerryModel", name := "odds", desc := "(III)I" } : Jvm.MethodName)) ∈ ab_G := ab_gm (tb_in7 (List.mem_of_getElem? (i := 203) rfl)) rfl
set_option maxRecDepth 100000 in
theorem kw_1644 : (Jvm.Cond.code ({ cls := "LackFerryModel", name := "odds", desc := "(III)I" } : Jvm.MethodName) prog_13_method_90_code (7 : Nat) (Option.some Jvm.ClassFile.FieldType.int)) ∈ ab_G := ab_gm (tb_in7 (List.mem_of_getElem? (i := 204) rfl)) rfl
set_option maxRecDepth 100000 in
theorem kw_1645 : (Jvm.Cond.methodLink "LackFerryLaw" (166 : Nat) ({ cls := "LackFerryModel", name := "log", desc := "(I)I" } : Jvm.MethodName)) ∈ ab_G := ab_gm (tb_in7 (List.mem_of_getElem? (i := 205) rfl)) rfl
set_option maxRecDepth 100000 in
theorem kw_1646 : (Jvm.Cond.instanceMethod ({ cls := "LackFerryModel", name := "log", desc := "(I)I" } : Jvm.MethodName)) ∈ ab_G := ab_gm (tb_in7 (List.mem_of_getElem? (i := 206) rfl)) rfl
set_option maxRecDepth 100000 in
theorem kw_1647 : (Jvm.Cond.selects "LackFerryModel" ({ cls := "LackFerryModel", name := "log", desc := "(I)I" } : Jvm.MethodName) ({ cls := "LackFerryModel", name := "log", desc := "(I)I" } : Jvm.MethodName)) ∈ ab_G := ab_gm (tb_in7 (List.mem_of_getElem? (i := 207) rfl)) rfl
set_option maxRecDepth 100000 in
theorem kw_1648 : (Jvm.Cond.code ({ cls := "LackFerryModel", name := "log", desc := "(I)I" } : Jvm.MethodName) prog_13_method_93_code (5 : Nat) (Option.some Jvm.ClassFile.FieldType.int)) ∈ ab_G := ab_gm (tb_in7 (List.mem_of_getElem? (i := 208) rfl)) rfl
set_option maxRecDepth 100000 in
theorem kw_1649 : (Jvm.Cond.methodLink "LackFerryModel" (351 : Nat) ({ cls := "LackFerryModel", name := "logLine", desc := "()Z" } : Jvm.MethodName)) ∈ ab_G := ab_gm (tb_in7 (List.mem_of_getElem? (i := 209) rfl)) rfl
set_option maxRecDepth 100000 in
theorem kw_1651 : (Jvm.Cond.instanceMethod ({ cls := "LackFerryModel", name := "logLine", desc := "()Z" } : Jvm.MethodName)) ∈ ab_G := ab_gm (tb_in7 (List.mem_of_getElem? (i := 211) rfl)) rfl
set_option maxRecDepth 100000 in
theorem kw_1652 : (Jvm.Cond.code ({ cls := "LackFerryModel", name := "logLine", desc := "()Z" } : Jvm.MethodName) prog_13_method_91_code (3 : Nat) (Option.some Jvm.ClassFile.FieldType.boolean)) ∈ ab_G := ab_gm (tb_in7 (List.mem_of_getElem? (i := 212) rfl)) rfl
set_option maxRecDepth 100000 in
theorem kw_1653 : (Jvm.Cond.methodLink "LackFerryModel" (354 : Nat) ({ cls := "LackFerryModel", name := "does", desc := "(IIII)I" } : Jvm.MethodName)) ∈ ab_G := ab_gm (tb_in7 (List.mem_of_getElem? (i := 213) rfl)) rfl
set_option maxRecDepth 100000 in
theorem kw_1655 : (Jvm.Cond.instanceMethod ({ cls := "LackFerryModel", name := "does", desc := "(IIII)I" } : Jvm.MethodName)) ∈ ab_G := ab_gm (tb_in7 (List.mem_of_getElem? (i := 215) rfl)) rfl
set_option maxRecDepth 100000 in
theorem kw_1656 : (Jvm.Cond.code ({ cls := "LackFerryModel", name := "does", desc := "(IIII)I" } : Jvm.MethodName) prog_13_method_92_code (7 : Nat) (Option.some Jvm.ClassFile.FieldType.int)) ∈ ab_G := ab_gm (tb_in7 (List.mem_of_getElem? (i := 216) rfl)) rfl
set_option maxRecDepth 100000 in
theorem kw_1657 : (Jvm.Cond.methodLink "LackFerryLaw" (170 : Nat) ({ cls := "LackFerryModel", name := "logged", desc := "(I)I" } : Jvm.MethodName)) ∈ ab_G := ab_gm (tb_in7 (List.mem_of_getElem? (i := 217) rfl)) rfl
set_option maxRecDepth 100000 in
theorem kw_1658 : (Jvm.Cond.instanceMethod ({ cls := "LackFerryModel", name := "logged", desc := "(I)I" } : Jvm.MethodName)) ∈ ab_G := ab_gm (tb_in7 (List.mem_of_getElem? (i := 218) rfl)) rfl
set_option maxRecDepth 100000 in
theorem kw_1659 : (Jvm.Cond.selects "LackFerryModel" ({ cls := "LackFerryModel", name := "logged", desc := "(I)I" } : Jvm.MethodName) ({ cls := "LackFerryModel", name := "logged", desc := "(I)I" } : Jvm.MethodName)) ∈ ab_G := ab_gm (tb_in7 (List.mem_of_getElem? (i := 219) rfl)) rfl
set_option maxRecDepth 100000 in
theorem kw_1660 : (Jvm.Cond.code ({ cls := "LackFerryModel", name := "logged", desc := "(I)I" } : Jvm.MethodName) prog_13_method_94_code (2 : Nat) (Option.some Jvm.ClassFile.FieldType.int)) ∈ ab_G := ab_gm (tb_in7 (List.mem_of_getElem? (i := 220) rfl)) rfl
set_option maxRecDepth 100000 in
theorem kw_1661 : (Jvm.Cond.methodLink "LackFerryLaw" (174 : Nat) ({ cls := "LackFerryModel", name := "sentence", desc := "()I" } : Jvm.MethodName)) ∈ ab_G := ab_gm (tb_in7 (List.mem_of_getElem? (i := 221) rfl)) rfl
set_option maxRecDepth 100000 in
theorem kw_1662 : (Jvm.Cond.instanceMethod ({ cls := "LackFerryModel", name := "sentence", desc := "()I" } : Jvm.MethodName)) ∈ ab_G := ab_gm (tb_in7 (List.mem_of_getElem? (i := 222) rfl)) rfl
set_option maxRecDepth 100000 in
theorem kw_1663 : (Jvm.Cond.selects "LackFerryModel" ({ cls := "LackFerryModel", name := "sentence", desc := "()I" } : Jvm.MethodName) ({ cls := "LackFerryModel", name := "sentence", desc := "()I" } : Jvm.MethodName)) ∈ ab_G := ab_gm (tb_in7 (List.mem_of_getElem? (i := 223) rfl)) rfl
set_option maxRecDepth 100000 in
theorem kw_1664 : (Jvm.Cond.code ({ cls := "LackFerryModel", name := "sentence", desc := "()I" } : Jvm.MethodName) prog_13_method_101_code (3 : Nat) (Option.some Jvm.ClassFile.FieldType.int)) ∈ ab_G := ab_gm (tb_in7 (List.mem_of_getElem? (i := 224) rfl)) rfl
set_option maxRecDepth 100000 in
theorem kw_1665 : (Jvm.Cond.methodLink "LackFerryModel" (383 : Nat) ({ cls := "LackFerryModel", name := "nots", desc := "()V" } : Jvm.MethodName)) ∈ ab_G := ab_gm (tb_in7 (List.mem_of_getElem? (i := 225) rfl)) rfl
set_option maxRecDepth 100000 in
theorem kw_1667 : (Jvm.Cond.instanceMethod ({ cls := "LackFerryModel", name := "nots", desc := "()V" } : Jvm.MethodName)) ∈ ab_G := ab_gm (tb_in7 (List.mem_of_getElem? (i := 227) rfl)) rfl
set_option maxRecDepth 100000 in
theorem kw_1668 : (Jvm.Cond.code ({ cls := "LackFerryModel", name := "nots", desc := "()V" } : Jvm.MethodName) prog_13_method_97_code (1 : Nat) (Option.none : Option Jvm.ClassFile.FieldType)) ∈ ab_G := ab_gm (tb_in7 (List.mem_of_getElem? (i := 228) rfl)) rfl
set_option maxRecDepth 100000 in
theorem kw_1669 : (Jvm.Cond.methodLink "LackFerryModel" (367 : Nat) ({ cls := "LackFerryModel", name := "code", desc := "(III)V" } : Jvm.MethodName)) ∈ ab_G := ab_gm (tb_in7 (List.mem_of_getElem? (i := 229) rfl)) rfl
set_option maxRecDepth 100000 in
theorem kw_1671 : (Jvm.Cond.instanceMethod ({ cls := "LackFerryModel", name := "code", desc := "(III)V" } : Jvm.MethodName)) ∈ ab_G := ab_gm (tb_in7 (List.mem_of_getElem? (i := 231) rfl)) rfl
set_option maxRecDepth 100000 in
theorem kw_1672 : (Jvm.Cond.code ({ cls := "LackFerryModel", name := "code", desc := "(III)V" } : Jvm.MethodName) prog_13_method_95_code (4 : Nat) (Option.none : Option Jvm.ClassFile.FieldType)) ∈ ab_G := ab_gm (tb_in7 (List.mem_of_getElem? (i := 232) rfl)) rfl
set_option maxRecDepth 100000 in
theorem kw_1673 : (Jvm.Cond.methodLink "LackFerryModel" (386 : Nat) ({ cls := "LackFerryModel", name := "joins", desc := "(I)V" } : Jvm.MethodName)) ∈ ab_G := ab_gm (tb_in7 (List.mem_of_getElem? (i := 233) rfl)) rfl
set_option maxRecDepth 100000 in
theorem kw_1675 : (Jvm.Cond.instanceMethod ({ cls := "LackFerryModel", name := "joins", desc := "(I)V" } : Jvm.MethodName)) ∈ ab_G := ab_gm (tb_in7 (List.mem_of_getElem? (i := 235) rfl)) rfl
set_option maxRecDepth 100000 in
theorem kw_1676 : (Jvm.Cond.code ({ cls := "LackFerryModel", name := "joins", desc := "(I)V" } : Jvm.MethodName) prog_13_method_96_code (2 : Nat) (Option.none : Option Jvm.ClassFile.FieldType)) ∈ ab_G := ab_gm (tb_in7 (List.mem_of_getElem? (i := 236) rfl)) rfl
set_option maxRecDepth 100000 in
theorem kw_1677 : (Jvm.Cond.methodLink "LackFerryModel" (389 : Nat) ({ cls := "LackFerryModel", name := "behind", desc := "()Z" } : Jvm.MethodName)) ∈ ab_G := ab_gm (tb_in7 (List.mem_of_getElem? (i := 237) rfl)) rfl
set_option maxRecDepth 100000 in
theorem kw_1679 : (Jvm.Cond.instanceMethod ({ cls := "LackFerryModel", name := "behind", desc := "()Z" } : Jvm.MethodName)) ∈ ab_G := ab_gm (tb_in7 (List.mem_of_getElem? (i := 239) rfl)) rfl
set_option maxRecDepth 100000 in
theorem kw_1680 : (Jvm.Cond.code ({ cls := "LackFerryModel", name := "behind", desc := "()Z" } : Jvm.MethodName) prog_13_method_100_code (1 : Nat) (Option.some Jvm.ClassFile.FieldType.boolean)) ∈ ab_G := ab_gm (tb_in8 (List.mem_of_getElem? (i := 0) rfl)) rfl
set_option maxRecDepth 100000 in
theorem kw_1681 : (Jvm.Cond.methodLink "LackFerryModel" (392 : Nat) ({ cls := "LackFerryModel", name := "operand", desc := "()Z" } : Jvm.MethodName)) ∈ ab_G := ab_gm (tb_in8 (List.mem_of_getElem? (i := 1) rfl)) rfl
set_option maxRecDepth 100000 in
theorem kw_1683 : (Jvm.Cond.instanceMethod ({ cls := "LackFerryModel", name := "operand", desc := "()Z" } : Jvm.MethodName)) ∈ ab_G := ab_gm (tb_in8 (List.mem_of_getElem? (i := 3) rfl)) rfl
set_option maxRecDepth 100000 in
theorem kw_1684 : (Jvm.Cond.code ({ cls := "LackFerryModel", name := "operand", desc := "()Z" } : Jvm.MethodName) prog_13_method_99_code (5 : Nat) (Option.some Jvm.ClassFile.FieldType.boolean)) ∈ ab_G := ab_gm (tb_in8 (List.mem_of_getElem? (i := 4) rfl)) rfl
set_option maxRecDepth 100000 in
theorem kw_1685 : (Jvm.Cond.methodLink "LackFerryModel" (374 : Nat) ({ cls := "LackFerryModel", name := "leafOf", desc := "()I" } : Jvm.MethodName)) ∈ ab_G := ab_gm (tb_in8 (List.mem_of_getElem? (i := 5) rfl)) rfl
set_option maxRecDepth 100000 in
theorem kw_1687 : (Jvm.Cond.instanceMethod ({ cls := "LackFerryModel", name := "leafOf", desc := "()I" } : Jvm.MethodName)) ∈ ab_G := ab_gm (tb_in8 (List.mem_of_getElem? (i := 7) rfl)) rfl
set_option maxRecDepth 100000 in
theorem kw_1688 : (Jvm.Cond.code ({ cls := "LackFerryModel", name := "leafOf", desc := "()I" } : Jvm.MethodName) prog_13_method_98_code (1 : Nat) (Option.some Jvm.ClassFile.FieldType.int)) ∈ ab_G := ab_gm (tb_in8 (List.mem_of_getElem? (i := 8) rfl)) rfl
set_option maxRecDepth 100000 in
theorem kw_1689 : (Jvm.Cond.methodLink "LackFerryLaw" (178 : Nat) ({ cls := "LackFerryModel", name := "said", desc := "(I)I" } : Jvm.MethodName)) ∈ ab_G := ab_gm (tb_in8 (List.mem_of_getElem? (i := 9) rfl)) rfl
set_option maxRecDepth 100000 in
theorem kw_1690 : (Jvm.Cond.instanceMethod ({ cls := "LackFerryModel", name := "said", desc := "(I)I" } : Jvm.MethodName)) ∈ ab_G := ab_gm (tb_in8 (List.mem_of_getElem? (i := 10) rfl)) rfl
set_option maxRecDepth 100000 in
theorem kw_1691 : (Jvm.Cond.selects "LackFerryModel" ({ cls := "LackFerryModel", name := "said", desc := "(I)I" } : Jvm.MethodName) ({ cls := "LackFerryModel", name := "said", desc := "(I)I" } : Jvm.MethodName)) ∈ ab_G := ab_gm (tb_in8 (List.mem_of_getElem? (i := 11) rfl)) rfl
set_option maxRecDepth 100000 in
theorem kw_1692 : (Jvm.Cond.code ({ cls := "LackFerryModel", name := "said", desc := "(I)I" } : Jvm.MethodName) prog_13_method_104_code (4 : Nat) (Option.some Jvm.ClassFile.FieldType.int)) ∈ ab_G := ab_gm (tb_in8 (List.mem_of_getElem? (i := 12) rfl)) rfl
set_option maxRecDepth 100000 in
theorem kw_1693 : (Jvm.Cond.methodLink "LackFerryModel" (399 : Nat) ({ cls := "LackFerryModel", name := "isSaid", desc := "(I)Z" } : Jvm.MethodName)) ∈ ab_G := ab_gm (tb_in8 (List.mem_of_getElem? (i := 13) rfl)) rfl
set_option maxRecDepth 100000 in
theorem kw_1695 : (Jvm.Cond.instanceMethod ({ cls := "LackFerryModel", name := "isSaid", desc := "(I)Z" } : Jvm.MethodName)) ∈ ab_G := ab_gm (tb_in8 (List.mem_of_getElem? (i := 15) rfl)) rfl
set_option maxRecDepth 100000 in
theorem kw_1696 : (Jvm.Cond.code ({ cls := "LackFerryModel", name := "isSaid", desc := "(I)Z" } : Jvm.MethodName) prog_13_method_103_code (5 : Nat) (Option.some Jvm.ClassFile.FieldType.boolean)) ∈ ab_G := ab_gm (tb_in8 (List.mem_of_getElem? (i := 16) rfl)) rfl
set_option maxRecDepth 100000 in
theorem kw_1697 : (Jvm.Cond.methodLink "LackFerryModel" (395 : Nat) ({ cls := "LackFerryModel", name := "isLeaf", desc := "(IIII)Z" } : Jvm.MethodName)) ∈ ab_G := ab_gm (tb_in8 (List.mem_of_getElem? (i := 17) rfl)) rfl
set_option maxRecDepth 100000 in
theorem kw_1699 : (Jvm.Cond.instanceMethod ({ cls := "LackFerryModel", name := "isLeaf", desc := "(IIII)Z" } : Jvm.MethodName)) ∈ ab_G := ab_gm (tb_in8 (List.mem_of_getElem? (i := 19) rfl)) rfl
set_option maxRecDepth 100000 in
theorem kw_1700 : (Jvm.Cond.code ({ cls := "LackFerryModel", name := "isLeaf", desc := "(IIII)Z" } : Jvm.MethodName) prog_13_method_102_code (6 : Nat) (Option.some Jvm.ClassFile.FieldType.boolean)) ∈ ab_G := ab_gm (tb_in8 (List.mem_of_getElem? (i := 20) rfl)) rfl
set_option maxRecDepth 100000 in
theorem kw_1701 : (Jvm.Cond.methodLink "LackFerryLaw" (182 : Nat) ({ cls := "LackFerryModel", name := "image", desc := "(I)Z" } : Jvm.MethodName)) ∈ ab_G := ab_gm (tb_in8 (List.mem_of_getElem? (i := 21) rfl)) rfl
set_option maxRecDepth 100000 in
theorem kw_1702 : (Jvm.Cond.instanceMethod ({ cls := "LackFerryModel", name := "image", desc := "(I)Z" } : Jvm.MethodName)) ∈ ab_G := ab_gm (tb_in8 (List.mem_of_getElem? (i := 22) rfl)) rfl
set_option maxRecDepth 100000 in
theorem kw_1703 : (Jvm.Cond.selects "LackFerryModel" ({ cls := "LackFerryModel", name := "image", desc := "(I)Z" } : Jvm.MethodName) ({ cls := "LackFerryModel", name := "image", desc := "(I)Z" } : Jvm.MethodName)) ∈ ab_G := ab_gm (tb_in8 (List.mem_of_getElem? (i := 23) rfl)) rfl
set_option maxRecDepth 100000 in
theorem kw_1704 : (Jvm.Cond.code ({ cls := "LackFerryModel", name := "image", desc := "(I)Z" } : Jvm.MethodName) prog_13_method_105_code (3 : Nat) (Option.some Jvm.ClassFile.FieldType.boolean)) ∈ ab_G := ab_gm (tb_in8 (List.mem_of_getElem? (i := 24) rfl)) rfl
set_option maxRecDepth 100000 in
theorem kw_1705 : (Jvm.Cond.methodLink "LackFerryLaw" (186 : Nat) ({ cls := "LackFerryModel", name := "restore", desc := "(I)Z" } : Jvm.MethodName)) ∈ ab_G := ab_gm (tb_in8 (List.mem_of_getElem? (i := 25) rfl)) rfl
set_option maxRecDepth 100000 in
theorem kw_1706 : (Jvm.Cond.instanceMethod ({ cls := "LackFerryModel", name := "restore", desc := "(I)Z" } : Jvm.MethodName)) ∈ ab_G := ab_gm (tb_in8 (List.mem_of_getElem? (i := 26) rfl)) rfl
set_option maxRecDepth 100000 in
theorem kw_1707 : (Jvm.Cond.selects "LackFerryModel" ({ cls := "LackFerryModel", name := "restore", desc := "(I)Z" } : Jvm.MethodName) ({ cls := "LackFerryModel", name := "restore", desc := "(I)Z" } : Jvm.MethodName)) ∈ ab_G := ab_gm (tb_in8 (List.mem_of_getElem? (i := 27) rfl)) rfl
set_option maxRecDepth 100000 in
theorem kw_1708 : (Jvm.Cond.code ({ cls := "LackFerryModel", name := "restore", desc := "(I)Z" } : Jvm.MethodName) prog_13_method_106_code (3 : Nat) (Option.some Jvm.ClassFile.FieldType.boolean)) ∈ ab_G := ab_gm (tb_in8 (List.mem_of_getElem? (i := 28) rfl)) rfl
set_option maxRecDepth 100000 in
theorem kw_1709 : (Jvm.Cond.methodLink "LackFerryLaw" (190 : Nat) ({ cls := "LackFerryModel", name := "count", desc := "(I)I" } : Jvm.MethodName)) ∈ ab_G := ab_gm (tb_in8 (List.mem_of_getElem? (i := 29) rfl)) rfl
set_option maxRecDepth 100000 in
theorem kw_1710 : (Jvm.Cond.instanceMethod ({ cls := "LackFerryModel", name := "count", desc := "(I)I" } : Jvm.MethodName)) ∈ ab_G := ab_gm (tb_in8 (List.mem_of_getElem? (i := 30) rfl)) rfl
set_option maxRecDepth 100000 in
theorem kw_1711 : (Jvm.Cond.selects "LackFerryModel" ({ cls := "LackFerryModel", name := "count", desc := "(I)I" } : Jvm.MethodName) ({ cls := "LackFerryModel", name := "count", desc := "(I)I" } : Jvm.MethodName)) ∈ ab_G := ab_gm (tb_in8 (List.mem_of_getElem? (i := 31) rfl)) rfl
set_option maxRecDepth 100000 in
theorem kw_1712 : (Jvm.Cond.code ({ cls := "LackFerryModel", name := "count", desc := "(I)I" } : Jvm.MethodName) prog_13_method_107_code (2 : Nat) (Option.some Jvm.ClassFile.FieldType.int)) ∈ ab_G := ab_gm (tb_in8 (List.mem_of_getElem? (i := 32) rfl)) rfl
set_option maxRecDepth 100000 in
theorem kw_1729 : (Jvm.Cond.fieldLink "java/lang/String" (9 : Nat) "java/lang/String" "value" "[B") ∈ ab_G := ab_gm (tb_in8 (List.mem_of_getElem? (i := 49) rfl)) rfl
set_option maxRecDepth 100000 in
theorem kw_1730 : (Jvm.Cond.fieldLink "java/lang/String" (15 : Nat) "java/lang/String" "coder" "B") ∈ ab_G := ab_gm (tb_in8 (List.mem_of_getElem? (i := 50) rfl)) rfl
set_option maxRecDepth 100000 in
theorem kp_0 : Cond.selects "LackFerry$Tape" ⟨"LackFerry$Tape", "skipBlanks", "()V"⟩ ⟨"LackFerry$Tape", "skipBlanks", "()V"⟩ ∈ ab_G := ab_gp (q := (⟨"LackFerry$Tape", "skipBlanks", "()V"⟩, 3)) 0 rfl
set_option maxRecDepth 100000 in
theorem kp_1 : Cond.selects "LackFerry$Tape" ⟨"LackFerry$Tape", "cutToken", "(LLackFerry$Tokens;)I"⟩ ⟨"LackFerry$Tape", "cutToken", "(LLackFerry$Tokens;)I"⟩ ∈ ab_G := ab_gp (q := (⟨"LackFerry$Tape", "cutToken", "(LLackFerry$Tokens;)I"⟩, 3)) 1 rfl
set_option maxRecDepth 100000 in
theorem kp_2 : Cond.selects "LackFerry$Tape" ⟨"LackFerry$Tape", "cutRun", "(LLackFerry$Tokens;)I"⟩ ⟨"LackFerry$Tape", "cutRun", "(LLackFerry$Tokens;)I"⟩ ∈ ab_G := ab_gp (q := (⟨"LackFerry$Tape", "cutRun", "(LLackFerry$Tokens;)I"⟩, 3)) 2 rfl
set_option maxRecDepth 100000 in
theorem kp_3 : Cond.selects "LackFerry$Tape" ⟨"LackFerry$Tape", "kindOfWord", "(II)I"⟩ ⟨"LackFerry$Tape", "kindOfWord", "(II)I"⟩ ∈ ab_G := ab_gp (q := (⟨"LackFerry$Tape", "kindOfWord", "(II)I"⟩, 3)) 3 rfl
set_option maxRecDepth 100000 in
theorem kp_4 : Cond.selects "LackFerry$Tape" ⟨"LackFerry$Tape", "isToldWord", "(III)Z"⟩ ⟨"LackFerry$Tape", "isToldWord", "(III)Z"⟩ ∈ ab_G := ab_gp (q := (⟨"LackFerry$Tape", "isToldWord", "(III)Z"⟩, 3)) 4 rfl
set_option maxRecDepth 100000 in
theorem kp_5 : Cond.selects "LackFerry$Strait" ⟨"LackFerry$Strait", "clear", "()V"⟩ ⟨"LackFerry$Strait", "clear", "()V"⟩ ∈ ab_G := ab_gp (q := (⟨"LackFerry$Strait", "clear", "()V"⟩, 13)) 5 rfl
set_option maxRecDepth 100000 in
theorem kp_6 : Cond.selects "LackFerry$Strait" ⟨"LackFerry$Strait", "readLine", "(LLackFerry$Tokens;)Z"⟩ ⟨"LackFerry$Strait", "readLine", "(LLackFerry$Tokens;)Z"⟩ ∈ ab_G := ab_gp (q := (⟨"LackFerry$Strait", "readLine", "(LLackFerry$Tokens;)Z"⟩, 13)) 6 rfl
set_option maxRecDepth 100000 in
theorem kp_7 : Cond.selects "LackFerry$Strait" ⟨"LackFerry$Strait", "readAmount", "(LLackFerry$Tokens;I)Z"⟩ ⟨"LackFerry$Strait", "readAmount", "(LLackFerry$Tokens;I)Z"⟩ ∈ ab_G := ab_gp (q := (⟨"LackFerry$Strait", "readAmount", "(LLackFerry$Tokens;I)Z"⟩, 13)) 7 rfl
set_option maxRecDepth 100000 in
theorem kp_8 : Cond.selects "LackFerry$Strait" ⟨"LackFerry$Strait", "readLoad", "(LLackFerry$Tokens;)Z"⟩ ⟨"LackFerry$Strait", "readLoad", "(LLackFerry$Tokens;)Z"⟩ ∈ ab_G := ab_gp (q := (⟨"LackFerry$Strait", "readLoad", "(LLackFerry$Tokens;)Z"⟩, 13)) 8 rfl
set_option maxRecDepth 100000 in
theorem kp_9 : Cond.selects "LackFerry$Strait" ⟨"LackFerry$Strait", "readGood", "(LLackFerry$Tokens;)Z"⟩ ⟨"LackFerry$Strait", "readGood", "(LLackFerry$Tokens;)Z"⟩ ∈ ab_G := ab_gp (q := (⟨"LackFerry$Strait", "readGood", "(LLackFerry$Tokens;)Z"⟩, 13)) 9 rfl
set_option maxRecDepth 100000 in
theorem kp_10 : Cond.selects "LackFerry$Strait" ⟨"LackFerry$Strait", "takeNewName", "(LLackFerry$Tokens;)Z"⟩ ⟨"LackFerry$Strait", "takeNewName", "(LLackFerry$Tokens;)Z"⟩ ∈ ab_G := ab_gp (q := (⟨"LackFerry$Strait", "takeNewName", "(LLackFerry$Tokens;)Z"⟩, 13)) 10 rfl
set_option maxRecDepth 100000 in
theorem kp_11 : Cond.selects "LackFerry$Strait" ⟨"LackFerry$Strait", "readMan", "(LLackFerry$Tokens;)Z"⟩ ⟨"LackFerry$Strait", "readMan", "(LLackFerry$Tokens;)Z"⟩ ∈ ab_G := ab_gp (q := (⟨"LackFerry$Strait", "readMan", "(LLackFerry$Tokens;)Z"⟩, 13)) 11 rfl
set_option maxRecDepth 100000 in
theorem kp_12 : Cond.selects "LackFerry$Strait" ⟨"LackFerry$Strait", "readMisses", "(LLackFerry$Tokens;)Z"⟩ ⟨"LackFerry$Strait", "readMisses", "(LLackFerry$Tokens;)Z"⟩ ∈ ab_G := ab_gp (q := (⟨"LackFerry$Strait", "readMisses", "(LLackFerry$Tokens;)Z"⟩, 13)) 12 rfl
set_option maxRecDepth 100000 in
theorem kp_13 : Cond.selects "LackFerry$Strait" ⟨"LackFerry$Strait", "takeMan", "(LLackFerry$Tokens;)I"⟩ ⟨"LackFerry$Strait", "takeMan", "(LLackFerry$Tokens;)I"⟩ ∈ ab_G := ab_gp (q := (⟨"LackFerry$Strait", "takeMan", "(LLackFerry$Tokens;)I"⟩, 13)) 13 rfl
set_option maxRecDepth 100000 in
theorem kp_14 : Cond.selects "LackFerry$Strait" ⟨"LackFerry$Strait", "isMissTold", "(II)Z"⟩ ⟨"LackFerry$Strait", "isMissTold", "(II)Z"⟩ ∈ ab_G := ab_gp (q := (⟨"LackFerry$Strait", "isMissTold", "(II)Z"⟩, 13)) 14 rfl
set_option maxRecDepth 100000 in
theorem kp_15 : Cond.selects "LackFerry" ⟨"LackFerry", "isSlot", "(II)Z"⟩ ⟨"LackFerry", "isSlot", "(II)Z"⟩ ∈ ab_G := ab_gp (q := (⟨"LackFerry", "isSlot", "(II)Z"⟩, 19)) 15 rfl
set_option maxRecDepth 100000 in
theorem kp_16 : Cond.selects "LackFerry" ⟨"LackFerry", "isGood", "(I)Z"⟩ ⟨"LackFerry", "isGood", "(I)Z"⟩ ∈ ab_G := ab_gp (q := (⟨"LackFerry", "isGood", "(I)Z"⟩, 19)) 16 rfl
set_option maxRecDepth 100000 in
theorem kp_17 : Cond.selects "LackFerry" ⟨"LackFerry", "areLivingTwo", "(II)Z"⟩ ⟨"LackFerry", "areLivingTwo", "(II)Z"⟩ ∈ ab_G := ab_gp (q := (⟨"LackFerry", "areLivingTwo", "(II)Z"⟩, 19)) 17 rfl
set_option maxRecDepth 100000 in
theorem kp_18 : Cond.selects "LackFerry" ⟨"LackFerry", "isMan", "(I)Z"⟩ ⟨"LackFerry", "isMan", "(I)Z"⟩ ∈ ab_G := ab_gp (q := (⟨"LackFerry", "isMan", "(I)Z"⟩, 19)) 18 rfl
set_option maxRecDepth 100000 in
theorem kp_19 : Cond.selects "LackFerry$Shores" ⟨"LackFerry$Shores", "isFelt", "(LLackFerry$Strait;I)Z"⟩ ⟨"LackFerry$Shores", "isFelt", "(LLackFerry$Strait;I)Z"⟩ ∈ ab_G := ab_gp (q := (⟨"LackFerry$Shores", "isFelt", "(LLackFerry$Strait;I)Z"⟩, 10)) 19 rfl
set_option maxRecDepth 100000 in
theorem kp_20 : Cond.selects "LackFerry" ⟨"LackFerry", "act", "(IIII)I"⟩ ⟨"LackFerry", "act", "(IIII)I"⟩ ∈ ab_G := ab_gp (q := (⟨"LackFerry", "act", "(IIII)I"⟩, 19)) 20 rfl
set_option maxRecDepth 100000 in
theorem kp_21 : Cond.selects "LackFerry$History" ⟨"LackFerry$History", "dropOldest", "()V"⟩ ⟨"LackFerry$History", "dropOldest", "()V"⟩ ∈ ab_G := ab_gp (q := (⟨"LackFerry$History", "dropOldest", "()V"⟩, 2)) 21 rfl
set_option maxRecDepth 100000 in
theorem kp_22 : Cond.selects "LackFerry$Ferry" ⟨"LackFerry$Ferry", "carry", "(LLackFerry$Strait;LLackFerry$Shores;)V"⟩ ⟨"LackFerry$Ferry", "carry", "(LLackFerry$Strait;LLackFerry$Shores;)V"⟩ ∈ ab_G := ab_gp (q := (⟨"LackFerry$Ferry", "carry", "(LLackFerry$Strait;LLackFerry$Shores;)V"⟩, 4)) 22 rfl
set_option maxRecDepth 100000 in
theorem kp_23 : Cond.selects "LackFerry" ⟨"LackFerry", "foreseeRoom", "(II)I"⟩ ⟨"LackFerry", "foreseeRoom", "(II)I"⟩ ∈ ab_G := ab_gp (q := (⟨"LackFerry", "foreseeRoom", "(II)I"⟩, 19)) 23 rfl
set_option maxRecDepth 100000 in
theorem kp_24 : Cond.selects "LackFerry" ⟨"LackFerry", "roomTowards", "(II)I"⟩ ⟨"LackFerry", "roomTowards", "(II)I"⟩ ∈ ab_G := ab_gp (q := (⟨"LackFerry", "roomTowards", "(II)I"⟩, 19)) 24 rfl
set_option maxRecDepth 100000 in
theorem kp_25 : Cond.selects "LackFerry" ⟨"LackFerry", "wouldCome", "(IIII)I"⟩ ⟨"LackFerry", "wouldCome", "(IIII)I"⟩ ∈ ab_G := ab_gp (q := (⟨"LackFerry", "wouldCome", "(IIII)I"⟩, 19)) 25 rfl
set_option maxRecDepth 100000 in
theorem kp_26 : Cond.selects "LackFerry" ⟨"LackFerry", "couldGoSo", "(II)Z"⟩ ⟨"LackFerry", "couldGoSo", "(II)Z"⟩ ∈ ab_G := ab_gp (q := (⟨"LackFerry", "couldGoSo", "(II)Z"⟩, 19)) 26 rfl
set_option maxRecDepth 100000 in
theorem kp_27 : Cond.selects "LackFerry" ⟨"LackFerry", "movePrices", "()Z"⟩ ⟨"LackFerry", "movePrices", "()Z"⟩ ∈ ab_G := ab_gp (q := (⟨"LackFerry", "movePrices", "()Z"⟩, 19)) 27 rfl
set_option maxRecDepth 100000 in
theorem kp_28 : Cond.selects "LackFerry" ⟨"LackFerry", "drawDays", "(LLackFerry$Shores;II)I"⟩ ⟨"LackFerry", "drawDays", "(LLackFerry$Shores;II)I"⟩ ∈ ab_G := ab_gp (q := (⟨"LackFerry", "drawDays", "(LLackFerry$Shores;II)I"⟩, 19)) 28 rfl
set_option maxRecDepth 100000 in
theorem kp_29 : Cond.selects "LackFerry" ⟨"LackFerry", "drawDeed", "(LLackFerry$Shores;)V"⟩ ⟨"LackFerry", "drawDeed", "(LLackFerry$Shores;)V"⟩ ∈ ab_G := ab_gp (q := (⟨"LackFerry", "drawDeed", "(LLackFerry$Shores;)V"⟩, 19)) 29 rfl
set_option maxRecDepth 100000 in
theorem kp_30 : Cond.selects "LackFerry" ⟨"LackFerry", "drawDeath", "(LLackFerry$Shores;)V"⟩ ⟨"LackFerry", "drawDeath", "(LLackFerry$Shores;)V"⟩ ∈ ab_G := ab_gp (q := (⟨"LackFerry", "drawDeath", "(LLackFerry$Shores;)V"⟩, 19)) 30 rfl
set_option maxRecDepth 100000 in
theorem kp_31 : Cond.selects "LackFerry$LogText" ⟨"LackFerry$LogText", "readLine", "(LLackFerry$Tokens;LLackFerry$Strait;)Z"⟩ ⟨"LackFerry$LogText", "readLine", "(LLackFerry$Tokens;LLackFerry$Strait;)Z"⟩ ∈ ab_G := ab_gp (q := (⟨"LackFerry$LogText", "readLine", "(LLackFerry$Tokens;LLackFerry$Strait;)Z"⟩, 4)) 31 rfl
set_option maxRecDepth 100000 in
theorem kp_32 : Cond.selects "LackFerry$LogText" ⟨"LackFerry$LogText", "readDeed", "(LLackFerry$Tokens;LLackFerry$Strait;I)Z"⟩ ⟨"LackFerry$LogText", "readDeed", "(LLackFerry$Tokens;LLackFerry$Strait;I)Z"⟩ ∈ ab_G := ab_gp (q := (⟨"LackFerry$LogText", "readDeed", "(LLackFerry$Tokens;LLackFerry$Strait;I)Z"⟩, 4)) 32 rfl
set_option maxRecDepth 100000 in
theorem kp_33 : Cond.selects "LackFerry$LogText" ⟨"LackFerry$LogText", "addLine", "(III)Z"⟩ ⟨"LackFerry$LogText", "addLine", "(III)Z"⟩ ∈ ab_G := ab_gp (q := (⟨"LackFerry$LogText", "addLine", "(III)Z"⟩, 4)) 33 rfl
set_option maxRecDepth 100000 in
theorem kp_34 : Cond.selects "LackFerry$LogText" ⟨"LackFerry$LogText", "readDays", "(LLackFerry$Tokens;)Z"⟩ ⟨"LackFerry$LogText", "readDays", "(LLackFerry$Tokens;)Z"⟩ ∈ ab_G := ab_gp (q := (⟨"LackFerry$LogText", "readDays", "(LLackFerry$Tokens;)Z"⟩, 4)) 34 rfl
set_option maxRecDepth 100000 in
theorem kp_35 : Cond.selects "LackFerry$LogText" ⟨"LackFerry$LogText", "readDeath", "(LLackFerry$Tokens;I)Z"⟩ ⟨"LackFerry$LogText", "readDeath", "(LLackFerry$Tokens;I)Z"⟩ ∈ ab_G := ab_gp (q := (⟨"LackFerry$LogText", "readDeath", "(LLackFerry$Tokens;I)Z"⟩, 4)) 35 rfl
set_option maxRecDepth 100000 in
theorem kp_36 : Cond.selects "LackFerry" ⟨"LackFerry", "judgeLog", "()I"⟩ ⟨"LackFerry", "judgeLog", "()I"⟩ ∈ ab_G := ab_gp (q := (⟨"LackFerry", "judgeLog", "()I"⟩, 19)) 36 rfl
set_option maxRecDepth 100000 in
theorem kp_37 : Cond.selects "LackFerry" ⟨"LackFerry", "liveLine", "(III)I"⟩ ⟨"LackFerry", "liveLine", "(III)I"⟩ ∈ ab_G := ab_gp (q := (⟨"LackFerry", "liveLine", "(III)I"⟩, 19)) 37 rfl
set_option maxRecDepth 100000 in
theorem kp_38 : Cond.selects "LackFerry$Sentence" ⟨"LackFerry$Sentence", "readCond", "(LLackFerry$Tokens;I)Z"⟩ ⟨"LackFerry$Sentence", "readCond", "(LLackFerry$Tokens;I)Z"⟩ ∈ ab_G := ab_gp (q := (⟨"LackFerry$Sentence", "readCond", "(LLackFerry$Tokens;I)Z"⟩, 6)) 38 rfl
set_option maxRecDepth 100000 in
theorem kp_39 : Cond.selects "LackFerry$Sentence" ⟨"LackFerry$Sentence", "readAll", "(LLackFerry$Tokens;I)Z"⟩ ⟨"LackFerry$Sentence", "readAll", "(LLackFerry$Tokens;I)Z"⟩ ∈ ab_G := ab_gp (q := (⟨"LackFerry$Sentence", "readAll", "(LLackFerry$Tokens;I)Z"⟩, 6)) 39 rfl
set_option maxRecDepth 100000 in
theorem kp_40 : Cond.selects "LackFerry$Sentence" ⟨"LackFerry$Sentence", "readOne", "(LLackFerry$Tokens;I)Z"⟩ ⟨"LackFerry$Sentence", "readOne", "(LLackFerry$Tokens;I)Z"⟩ ∈ ab_G := ab_gp (q := (⟨"LackFerry$Sentence", "readOne", "(LLackFerry$Tokens;I)Z"⟩, 6)) 40 rfl
set_option maxRecDepth 100000 in
theorem kp_41 : Cond.selects "LackFerry$Sentence" ⟨"LackFerry$Sentence", "readBracket", "(LLackFerry$Tokens;I)Z"⟩ ⟨"LackFerry$Sentence", "readBracket", "(LLackFerry$Tokens;I)Z"⟩ ∈ ab_G := ab_gp (q := (⟨"LackFerry$Sentence", "readBracket", "(LLackFerry$Tokens;I)Z"⟩, 6)) 41 rfl
set_option maxRecDepth 100000 in
theorem kp_42 : Cond.selects "LackFerry$Sentence" ⟨"LackFerry$Sentence", "addOp", "(III)Z"⟩ ⟨"LackFerry$Sentence", "addOp", "(III)Z"⟩ ∈ ab_G := ab_gp (q := (⟨"LackFerry$Sentence", "addOp", "(III)Z"⟩, 6)) 42 rfl
set_option maxRecDepth 100000 in
theorem kp_43 : Cond.selects "LackFerry$Sentence" ⟨"LackFerry$Sentence", "readOnShore", "(LLackFerry$Tokens;I)Z"⟩ ⟨"LackFerry$Sentence", "readOnShore", "(LLackFerry$Tokens;I)Z"⟩ ∈ ab_G := ab_gp (q := (⟨"LackFerry$Sentence", "readOnShore", "(LLackFerry$Tokens;I)Z"⟩, 6)) 43 rfl
set_option maxRecDepth 100000 in
theorem kp_44 : Cond.selects "LackFerry$Sentence" ⟨"LackFerry$Sentence", "readCompared", "(LLackFerry$Tokens;I)Z"⟩ ⟨"LackFerry$Sentence", "readCompared", "(LLackFerry$Tokens;I)Z"⟩ ∈ ab_G := ab_gp (q := (⟨"LackFerry$Sentence", "readCompared", "(LLackFerry$Tokens;I)Z"⟩, 6)) 44 rfl
set_option maxRecDepth 100000 in
theorem kp_45 : Cond.selects "LackFerry$Sentence" ⟨"LackFerry$Sentence", "isSo", "(IILLackFerry$Strait;LLackFerry$Shores;)Z"⟩ ⟨"LackFerry$Sentence", "isSo", "(IILLackFerry$Strait;LLackFerry$Shores;)Z"⟩ ∈ ab_G := ab_gp (q := (⟨"LackFerry$Sentence", "isSo", "(IILLackFerry$Strait;LLackFerry$Shores;)Z"⟩, 6)) 45 rfl
set_option maxRecDepth 100000 in
theorem kp_47 : Cond.selects "LackFerryModel" ⟨"LackFerryModel", "four", "(I)V"⟩ ⟨"LackFerryModel", "four", "(I)V"⟩ ∈ ab_G := ab_gp (q := (⟨"LackFerryModel", "four", "(I)V"⟩, 43)) 47 rfl
set_option maxRecDepth 100000 in
theorem kp_48 : Cond.selects "LackFerryModel" ⟨"LackFerryModel", "taken", "(I)V"⟩ ⟨"LackFerryModel", "taken", "(I)V"⟩ ∈ ab_G := ab_gp (q := (⟨"LackFerryModel", "taken", "(I)V"⟩, 43)) 48 rfl
set_option maxRecDepth 100000 in
theorem kp_49 : Cond.selects "LackFerryModel" ⟨"LackFerryModel", "next", "()V"⟩ ⟨"LackFerryModel", "next", "()V"⟩ ∈ ab_G := ab_gp (q := (⟨"LackFerryModel", "next", "()V"⟩, 43)) 49 rfl
set_option maxRecDepth 100000 in
theorem kp_50 : Cond.selects "LackFerryModel" ⟨"LackFerryModel", "peek", "()I"⟩ ⟨"LackFerryModel", "peek", "()I"⟩ ∈ ab_G := ab_gp (q := (⟨"LackFerryModel", "peek", "()I"⟩, 43)) 50 rfl
set_option maxRecDepth 100000 in
theorem kp_51 : Cond.selects "LackFerryModel" ⟨"LackFerryModel", "line", "()Z"⟩ ⟨"LackFerryModel", "line", "()Z"⟩ ∈ ab_G := ab_gp (q := (⟨"LackFerryModel", "line", "()Z"⟩, 43)) 51 rfl
set_option maxRecDepth 100000 in
theorem kp_52 : Cond.selects "LackFerryModel" ⟨"LackFerryModel", "isWord", "(J)Z"⟩ ⟨"LackFerryModel", "isWord", "(J)Z"⟩ ∈ ab_G := ab_gp (q := (⟨"LackFerryModel", "isWord", "(J)Z"⟩, 43)) 52 rfl
set_option maxRecDepth 100000 in
theorem kp_53 : Cond.selects "LackFerryModel" ⟨"LackFerryModel", "bad", "(I)Z"⟩ ⟨"LackFerryModel", "bad", "(I)Z"⟩ ∈ ab_G := ab_gp (q := (⟨"LackFerryModel", "bad", "(I)Z"⟩, 43)) 53 rfl
set_option maxRecDepth 100000 in
theorem kp_54 : Cond.selects "LackFerryModel" ⟨"LackFerryModel", "puts", "(III)Z"⟩ ⟨"LackFerryModel", "puts", "(III)Z"⟩ ∈ ab_G := ab_gp (q := (⟨"LackFerryModel", "puts", "(III)Z"⟩, 43)) 54 rfl
set_option maxRecDepth 100000 in
theorem kp_55 : Cond.selects "LackFerryModel" ⟨"LackFerryModel", "takes", "(II)Z"⟩ ⟨"LackFerryModel", "takes", "(II)Z"⟩ ∈ ab_G := ab_gp (q := (⟨"LackFerryModel", "takes", "(II)Z"⟩, 43)) 55 rfl
set_option maxRecDepth 100000 in
theorem kp_56 : Cond.selects "LackFerryModel" ⟨"LackFerryModel", "fresh", "(I)Z"⟩ ⟨"LackFerryModel", "fresh", "(I)Z"⟩ ∈ ab_G := ab_gp (q := (⟨"LackFerryModel", "fresh", "(I)Z"⟩, 43)) 56 rfl
set_option maxRecDepth 100000 in
theorem kp_57 : Cond.selects "LackFerryModel" ⟨"LackFerryModel", "isName", "()Z"⟩ ⟨"LackFerryModel", "isName", "()Z"⟩ ∈ ab_G := ab_gp (q := (⟨"LackFerryModel", "isName", "()Z"⟩, 43)) 57 rfl
set_option maxRecDepth 100000 in
theorem kp_58 : Cond.selects "LackFerryModel" ⟨"LackFerryModel", "find", "(II)I"⟩ ⟨"LackFerryModel", "find", "(II)I"⟩ ∈ ab_G := ab_gp (q := (⟨"LackFerryModel", "find", "(II)I"⟩, 43)) 58 rfl
set_option maxRecDepth 100000 in
theorem kp_59 : Cond.selects "LackFerryModel" ⟨"LackFerryModel", "readMisses", "()Z"⟩ ⟨"LackFerryModel", "readMisses", "()Z"⟩ ∈ ab_G := ab_gp (q := (⟨"LackFerryModel", "readMisses", "()Z"⟩, 43)) 59 rfl
set_option maxRecDepth 100000 in
theorem kp_60 : Cond.selects "LackFerryModel" ⟨"LackFerryModel", "takesName", "(II)Z"⟩ ⟨"LackFerryModel", "takesName", "(II)Z"⟩ ∈ ab_G := ab_gp (q := (⟨"LackFerryModel", "takesName", "(II)Z"⟩, 43)) 60 rfl
set_option maxRecDepth 100000 in
theorem kp_61 : Cond.selects "LackFerryModel" ⟨"LackFerryModel", "looksAt", "(II)Z"⟩ ⟨"LackFerryModel", "looksAt", "(II)Z"⟩ ∈ ab_G := ab_gp (q := (⟨"LackFerryModel", "looksAt", "(II)Z"⟩, 43)) 61 rfl
set_option maxRecDepth 100000 in
theorem kp_62 : Cond.selects "LackFerryModel" ⟨"LackFerryModel", "sign", "(I)Z"⟩ ⟨"LackFerryModel", "sign", "(I)Z"⟩ ∈ ab_G := ab_gp (q := (⟨"LackFerryModel", "sign", "(I)Z"⟩, 43)) 62 rfl
set_option maxRecDepth 100000 in
theorem kp_63 : Cond.selects "LackFerryModel" ⟨"LackFerryModel", "isSign", "(I)Z"⟩ ⟨"LackFerryModel", "isSign", "(I)Z"⟩ ∈ ab_G := ab_gp (q := (⟨"LackFerryModel", "isSign", "(I)Z"⟩, 43)) 63 rfl
set_option maxRecDepth 100000 in
theorem kp_64 : Cond.selects "LackFerryModel" ⟨"LackFerryModel", "isPlace", "(II)Z"⟩ ⟨"LackFerryModel", "isPlace", "(II)Z"⟩ ∈ ab_G := ab_gp (q := (⟨"LackFerryModel", "isPlace", "(II)Z"⟩, 43)) 64 rfl
set_option maxRecDepth 100000 in
theorem kp_65 : Cond.selects "LackFerryModel" ⟨"LackFerryModel", "isGood", "(I)Z"⟩ ⟨"LackFerryModel", "isGood", "(I)Z"⟩ ∈ ab_G := ab_gp (q := (⟨"LackFerryModel", "isGood", "(I)Z"⟩, 43)) 65 rfl
set_option maxRecDepth 100000 in
theorem kp_66 : Cond.selects "LackFerryModel" ⟨"LackFerryModel", "isShore", "(I)Z"⟩ ⟨"LackFerryModel", "isShore", "(I)Z"⟩ ∈ ab_G := ab_gp (q := (⟨"LackFerryModel", "isShore", "(I)Z"⟩, 43)) 66 rfl
set_option maxRecDepth 100000 in
theorem kp_67 : Cond.selects "LackFerryModel" ⟨"LackFerryModel", "lackOf", "(II)I"⟩ ⟨"LackFerryModel", "lackOf", "(II)I"⟩ ∈ ab_G := ab_gp (q := (⟨"LackFerryModel", "lackOf", "(II)I"⟩, 43)) 67 rfl
set_option maxRecDepth 100000 in
theorem kp_68 : Cond.selects "LackFerryModel" ⟨"LackFerryModel", "isFalse", "(II)Z"⟩ ⟨"LackFerryModel", "isFalse", "(II)Z"⟩ ∈ ab_G := ab_gp (q := (⟨"LackFerryModel", "isFalse", "(II)Z"⟩, 43)) 68 rfl
set_option maxRecDepth 100000 in
theorem kp_69 : Cond.selects "LackFerryModel" ⟨"LackFerryModel", "isMan", "(I)Z"⟩ ⟨"LackFerryModel", "isMan", "(I)Z"⟩ ∈ ab_G := ab_gp (q := (⟨"LackFerryModel", "isMan", "(I)Z"⟩, 43)) 69 rfl
set_option maxRecDepth 100000 in
theorem kp_70 : Cond.selects "LackFerryModel" ⟨"LackFerryModel", "throwsIf", "(Z)Z"⟩ ⟨"LackFerryModel", "throwsIf", "(Z)Z"⟩ ∈ ab_G := ab_gp (q := (⟨"LackFerryModel", "throwsIf", "(Z)Z"⟩, 43)) 70 rfl
set_option maxRecDepth 100000 in
theorem kp_71 : Cond.selects "LackFerryModel" ⟨"LackFerryModel", "isDead", "(I)Z"⟩ ⟨"LackFerryModel", "isDead", "(I)Z"⟩ ∈ ab_G := ab_gp (q := (⟨"LackFerryModel", "isDead", "(I)Z"⟩, 43)) 71 rfl
set_option maxRecDepth 100000 in
theorem kp_72 : Cond.selects "LackFerryModel" ⟨"LackFerryModel", "missedBy", "(I)I"⟩ ⟨"LackFerryModel", "missedBy", "(I)I"⟩ ∈ ab_G := ab_gp (q := (⟨"LackFerryModel", "missedBy", "(I)I"⟩, 43)) 72 rfl
set_option maxRecDepth 100000 in
theorem kp_73 : Cond.selects "LackFerryModel" ⟨"LackFerryModel", "doesMiss", "(II)Z"⟩ ⟨"LackFerryModel", "doesMiss", "(II)Z"⟩ ∈ ab_G := ab_gp (q := (⟨"LackFerryModel", "doesMiss", "(II)Z"⟩, 43)) 73 rfl
set_option maxRecDepth 100000 in
theorem kp_74 : Cond.selects "LackFerryModel" ⟨"LackFerryModel", "areUnlike", "(II)Z"⟩ ⟨"LackFerryModel", "areUnlike", "(II)Z"⟩ ∈ ab_G := ab_gp (q := (⟨"LackFerryModel", "areUnlike", "(II)Z"⟩, 43)) 74 rfl
set_option maxRecDepth 100000 in
theorem kp_75 : Cond.selects "LackFerryModel" ⟨"LackFerryModel", "missesOf", "(I)I"⟩ ⟨"LackFerryModel", "missesOf", "(I)I"⟩ ∈ ab_G := ab_gp (q := (⟨"LackFerryModel", "missesOf", "(I)I"⟩, 43)) 75 rfl
set_option maxRecDepth 100000 in
theorem kp_76 : Cond.selects "LackFerryModel" ⟨"LackFerryModel", "menOn", "(I)I"⟩ ⟨"LackFerryModel", "menOn", "(I)I"⟩ ∈ ab_G := ab_gp (q := (⟨"LackFerryModel", "menOn", "(I)I"⟩, 43)) 76 rfl
set_option maxRecDepth 100000 in
theorem kp_77 : Cond.selects "LackFerryModel" ⟨"LackFerryModel", "whyHoard", "(II)I"⟩ ⟨"LackFerryModel", "whyHoard", "(II)I"⟩ ∈ ab_G := ab_gp (q := (⟨"LackFerryModel", "whyHoard", "(II)I"⟩, 43)) 77 rfl
set_option maxRecDepth 100000 in
theorem kp_78 : Cond.selects "LackFerryModel" ⟨"LackFerryModel", "keep", "()V"⟩ ⟨"LackFerryModel", "keep", "()V"⟩ ∈ ab_G := ab_gp (q := (⟨"LackFerryModel", "keep", "()V"⟩, 43)) 78 rfl
set_option maxRecDepth 100000 in
theorem kp_79 : Cond.selects "LackFerryModel" ⟨"LackFerryModel", "hoards", "(II)V"⟩ ⟨"LackFerryModel", "hoards", "(II)V"⟩ ∈ ab_G := ab_gp (q := (⟨"LackFerryModel", "hoards", "(II)V"⟩, 43)) 79 rfl
set_option maxRecDepth 100000 in
theorem kp_80 : Cond.selects "LackFerryModel" ⟨"LackFerryModel", "whyBare", "(II)I"⟩ ⟨"LackFerryModel", "whyBare", "(II)I"⟩ ∈ ab_G := ab_gp (q := (⟨"LackFerryModel", "whyBare", "(II)I"⟩, 43)) 80 rfl
set_option maxRecDepth 100000 in
theorem kp_81 : Cond.selects "LackFerryModel" ⟨"LackFerryModel", "goesOn", "(I)I"⟩ ⟨"LackFerryModel", "goesOn", "(I)I"⟩ ∈ ab_G := ab_gp (q := (⟨"LackFerryModel", "goesOn", "(I)I"⟩, 43)) 81 rfl
set_option maxRecDepth 100000 in
theorem kp_82 : Cond.selects "LackFerryModel" ⟨"LackFerryModel", "day", "()V"⟩ ⟨"LackFerryModel", "day", "()V"⟩ ∈ ab_G := ab_gp (q := (⟨"LackFerryModel", "day", "()V"⟩, 43)) 82 rfl
set_option maxRecDepth 100000 in
theorem kp_83 : Cond.selects "LackFerryModel" ⟨"LackFerryModel", "goingSet", "()I"⟩ ⟨"LackFerryModel", "goingSet", "()I"⟩ ∈ ab_G := ab_gp (q := (⟨"LackFerryModel", "goingSet", "()I"⟩, 43)) 83 rfl
set_option maxRecDepth 100000 in
theorem kp_84 : Cond.selects "LackFerryModel" ⟨"LackFerryModel", "goesOf", "(I)I"⟩ ⟨"LackFerryModel", "goesOf", "(I)I"⟩ ∈ ab_G := ab_gp (q := (⟨"LackFerryModel", "goesOf", "(I)I"⟩, 43)) 84 rfl
set_option maxRecDepth 100000 in
theorem kp_85 : Cond.selects "LackFerryModel" ⟨"LackFerryModel", "eats", "(I)V"⟩ ⟨"LackFerryModel", "eats", "(I)V"⟩ ∈ ab_G := ab_gp (q := (⟨"LackFerryModel", "eats", "(I)V"⟩, 43)) 85 rfl
set_option maxRecDepth 100000 in
theorem kp_86 : Cond.selects "LackFerryModel" ⟨"LackFerryModel", "tries", "()V"⟩ ⟨"LackFerryModel", "tries", "()V"⟩ ∈ ab_G := ab_gp (q := (⟨"LackFerryModel", "tries", "()V"⟩, 43)) 86 rfl
set_option maxRecDepth 100000 in
theorem kp_87 : Cond.selects "LackFerryModel" ⟨"LackFerryModel", "back", "()V"⟩ ⟨"LackFerryModel", "back", "()V"⟩ ∈ ab_G := ab_gp (q := (⟨"LackFerryModel", "back", "()V"⟩, 43)) 87 rfl
set_option maxRecDepth 100000 in
theorem kp_88 : Cond.selects "LackFerryModel" ⟨"LackFerryModel", "octet", "(I)I"⟩ ⟨"LackFerryModel", "octet", "(I)I"⟩ ∈ ab_G := ab_gp (q := (⟨"LackFerryModel", "octet", "(I)I"⟩, 43)) 88 rfl
set_option maxRecDepth 100000 in
theorem kp_89 : Cond.selects "LackFerryModel" ⟨"LackFerryModel", "lays", "(I)V"⟩ ⟨"LackFerryModel", "lays", "(I)V"⟩ ∈ ab_G := ab_gp (q := (⟨"LackFerryModel", "lays", "(I)V"⟩, 43)) 89 rfl
set_option maxRecDepth 100000 in
theorem kp_90 : Cond.selects "LackFerryModel" ⟨"LackFerryModel", "areAlike", "(II)Z"⟩ ⟨"LackFerryModel", "areAlike", "(II)Z"⟩ ∈ ab_G := ab_gp (q := (⟨"LackFerryModel", "areAlike", "(II)Z"⟩, 43)) 90 rfl
set_option maxRecDepth 100000 in
theorem kp_91 : Cond.selects "LackFerryModel" ⟨"LackFerryModel", "draws", "(II)I"⟩ ⟨"LackFerryModel", "draws", "(II)I"⟩ ∈ ab_G := ab_gp (q := (⟨"LackFerryModel", "draws", "(II)I"⟩, 43)) 91 rfl
set_option maxRecDepth 100000 in
theorem kp_92 : Cond.selects "LackFerryModel" ⟨"LackFerryModel", "drawsDay", "()V"⟩ ⟨"LackFerryModel", "drawsDay", "()V"⟩ ∈ ab_G := ab_gp (q := (⟨"LackFerryModel", "drawsDay", "()V"⟩, 43)) 92 rfl
set_option maxRecDepth 100000 in
theorem kp_93 : Cond.selects "LackFerryModel" ⟨"LackFerryModel", "draw", "(I)I"⟩ ⟨"LackFerryModel", "draw", "(I)I"⟩ ∈ ab_G := ab_gp (q := (⟨"LackFerryModel", "draw", "(I)I"⟩, 43)) 93 rfl
set_option maxRecDepth 100000 in
theorem kp_94 : Cond.selects "LackFerryModel" ⟨"LackFerryModel", "logLine", "()Z"⟩ ⟨"LackFerryModel", "logLine", "()Z"⟩ ∈ ab_G := ab_gp (q := (⟨"LackFerryModel", "logLine", "()Z"⟩, 43)) 94 rfl
set_option maxRecDepth 100000 in
theorem kp_95 : Cond.selects "LackFerryModel" ⟨"LackFerryModel", "does", "(IIII)I"⟩ ⟨"LackFerryModel", "does", "(IIII)I"⟩ ∈ ab_G := ab_gp (q := (⟨"LackFerryModel", "does", "(IIII)I"⟩, 43)) 95 rfl
set_option maxRecDepth 100000 in
theorem kp_96 : Cond.selects "LackFerryModel" ⟨"LackFerryModel", "nots", "()V"⟩ ⟨"LackFerryModel", "nots", "()V"⟩ ∈ ab_G := ab_gp (q := (⟨"LackFerryModel", "nots", "()V"⟩, 43)) 96 rfl
set_option maxRecDepth 100000 in
theorem kp_97 : Cond.selects "LackFerryModel" ⟨"LackFerryModel", "code", "(III)V"⟩ ⟨"LackFerryModel", "code", "(III)V"⟩ ∈ ab_G := ab_gp (q := (⟨"LackFerryModel", "code", "(III)V"⟩, 43)) 97 rfl
set_option maxRecDepth 100000 in
theorem kp_98 : Cond.selects "LackFerryModel" ⟨"LackFerryModel", "joins", "(I)V"⟩ ⟨"LackFerryModel", "joins", "(I)V"⟩ ∈ ab_G := ab_gp (q := (⟨"LackFerryModel", "joins", "(I)V"⟩, 43)) 98 rfl
set_option maxRecDepth 100000 in
theorem kp_99 : Cond.selects "LackFerryModel" ⟨"LackFerryModel", "behind", "()Z"⟩ ⟨"LackFerryModel", "behind", "()Z"⟩ ∈ ab_G := ab_gp (q := (⟨"LackFerryModel", "behind", "()Z"⟩, 43)) 99 rfl
set_option maxRecDepth 100000 in
theorem kp_100 : Cond.selects "LackFerryModel" ⟨"LackFerryModel", "operand", "()Z"⟩ ⟨"LackFerryModel", "operand", "()Z"⟩ ∈ ab_G := ab_gp (q := (⟨"LackFerryModel", "operand", "()Z"⟩, 43)) 100 rfl
set_option maxRecDepth 100000 in
theorem kp_101 : Cond.selects "LackFerryModel" ⟨"LackFerryModel", "leafOf", "()I"⟩ ⟨"LackFerryModel", "leafOf", "()I"⟩ ∈ ab_G := ab_gp (q := (⟨"LackFerryModel", "leafOf", "()I"⟩, 43)) 101 rfl
set_option maxRecDepth 100000 in
theorem kp_102 : Cond.selects "LackFerryModel" ⟨"LackFerryModel", "isSaid", "(I)Z"⟩ ⟨"LackFerryModel", "isSaid", "(I)Z"⟩ ∈ ab_G := ab_gp (q := (⟨"LackFerryModel", "isSaid", "(I)Z"⟩, 43)) 102 rfl
set_option maxRecDepth 100000 in
theorem kp_103 : Cond.selects "LackFerryModel" ⟨"LackFerryModel", "isLeaf", "(IIII)Z"⟩ ⟨"LackFerryModel", "isLeaf", "(IIII)Z"⟩ ∈ ab_G := ab_gp (q := (⟨"LackFerryModel", "isLeaf", "(IIII)Z"⟩, 43)) 103 rfl
set_option maxRecDepth 100000 in
theorem wi_X0 : ∀ w ∈ u_ws RX0 TX0 1, w ∈ ab_G := by
  show ∀ w ∈ [u_lay RX0 TX0 0], w ∈ ab_G
  refine List.forall_mem_cons.mpr ⟨kw_223, ?_⟩
  exact fun _ h => absurd h List.not_mem_nil
theorem df_X0 (b : ab_B) : ∀ i, i < 1 → defaultValue (tyX0 i) = vp_V (([.int 0] : List Value).map (ab_v b)) i := fun i hi => by
  have h : ∀ i, i < 1 → defaultValue (tyX0 i) = vp_V ([.int 0] : List Value) i := by decide +kernel
  exact h i hi
set_option maxRecDepth 100000 in
theorem wi_X1 : ∀ w ∈ u_ws RX1 TX1 4, w ∈ ab_G := by
  show ∀ w ∈ [u_lay RX1 TX1 0, u_lay RX1 TX1 1, u_lay RX1 TX1 2, u_lay RX1 TX1 3], w ∈ ab_G
  refine List.forall_mem_cons.mpr ⟨kw_112, ?_⟩
  refine List.forall_mem_cons.mpr ⟨kw_114, ?_⟩
  refine List.forall_mem_cons.mpr ⟨kw_116, ?_⟩
  refine List.forall_mem_cons.mpr ⟨kw_118, ?_⟩
  exact fun _ h => absurd h List.not_mem_nil
theorem df_X1 (b : ab_B) : ∀ i, i < 4 → defaultValue (tyX1 i) = vp_V (([.null, .null, .int 0, .int 0] : List Value).map (ab_v b)) i := fun i hi => by
  have h : ∀ i, i < 4 → defaultValue (tyX1 i) = vp_V ([.null, .null, .int 0, .int 0] : List Value) i := by decide +kernel
  exact h i hi
set_option maxRecDepth 100000 in
theorem wi_X2 : ∀ w ∈ u_ws RX2 TX2 2, w ∈ ab_G := by
  show ∀ w ∈ [u_lay RX2 TX2 0, u_lay RX2 TX2 1], w ∈ ab_G
  refine List.forall_mem_cons.mpr ⟨kw_131, ?_⟩
  refine List.forall_mem_cons.mpr ⟨kw_133, ?_⟩
  exact fun _ h => absurd h List.not_mem_nil
theorem df_X2 (b : ab_B) : ∀ i, i < 2 → defaultValue (tyX2 i) = vp_V (([.null, .int 0] : List Value).map (ab_v b)) i := fun i hi => by
  have h : ∀ i, i < 2 → defaultValue (tyX2 i) = vp_V ([.null, .int 0] : List Value) i := by decide +kernel
  exact h i hi
set_option maxRecDepth 100000 in
theorem wi_X3 : ∀ w ∈ u_ws RX3 TX3 3, w ∈ ab_G := by
  show ∀ w ∈ [u_lay RX3 TX3 0, u_lay RX3 TX3 1, u_lay RX3 TX3 2], w ∈ ab_G
  refine List.forall_mem_cons.mpr ⟨kw_1038, ?_⟩
  refine List.forall_mem_cons.mpr ⟨kw_1040, ?_⟩
  refine List.forall_mem_cons.mpr ⟨kw_1042, ?_⟩
  exact fun _ h => absurd h List.not_mem_nil
theorem df_X3 (b : ab_B) : ∀ i, i < 3 → defaultValue (tyX3 i) = vp_V (([.null, .null, .null] : List Value).map (ab_v b)) i := fun i hi => by
  have h : ∀ i, i < 3 → defaultValue (tyX3 i) = vp_V ([.null, .null, .null] : List Value) i := by decide +kernel
  exact h i hi
set_option maxRecDepth 100000 in
theorem wi_X4 : ∀ w ∈ u_ws RX4 TX4 4, w ∈ ab_G := by
  show ∀ w ∈ [u_lay RX4 TX4 0, u_lay RX4 TX4 1, u_lay RX4 TX4 2, u_lay RX4 TX4 3], w ∈ ab_G
  refine List.forall_mem_cons.mpr ⟨kw_206, ?_⟩
  refine List.forall_mem_cons.mpr ⟨kw_208, ?_⟩
  refine List.forall_mem_cons.mpr ⟨kw_210, ?_⟩
  refine List.forall_mem_cons.mpr ⟨kw_212, ?_⟩
  exact fun _ h => absurd h List.not_mem_nil
theorem df_X4 (b : ab_B) : ∀ i, i < 4 → defaultValue (tyX4 i) = vp_V (([.null, .null, .null, .int 0] : List Value).map (ab_v b)) i := fun i hi => by
  have h : ∀ i, i < 4 → defaultValue (tyX4 i) = vp_V ([.null, .null, .null, .int 0] : List Value) i := by decide +kernel
  exact h i hi
set_option maxRecDepth 100000 in
theorem wi_X5 : ∀ w ∈ u_ws RX5 TX5 6, w ∈ ab_G := by
  show ∀ w ∈ [u_lay RX5 TX5 0, u_lay RX5 TX5 1, u_lay RX5 TX5 2, u_lay RX5 TX5 3, u_lay RX5 TX5 4, u_lay RX5 TX5 5], w ∈ ab_G
  refine List.forall_mem_cons.mpr ⟨kw_302, ?_⟩
  refine List.forall_mem_cons.mpr ⟨kw_304, ?_⟩
  refine List.forall_mem_cons.mpr ⟨kw_306, ?_⟩
  refine List.forall_mem_cons.mpr ⟨kw_308, ?_⟩
  refine List.forall_mem_cons.mpr ⟨kw_310, ?_⟩
  refine List.forall_mem_cons.mpr ⟨kw_312, ?_⟩
  exact fun _ h => absurd h List.not_mem_nil
theorem df_X5 (b : ab_B) : ∀ i, i < 6 → defaultValue (tyX5 i) = vp_V (([.null, .null, .null, .int 0, .int 0, .int 0] : List Value).map (ab_v b)) i := fun i hi => by
  have h : ∀ i, i < 6 → defaultValue (tyX5 i) = vp_V ([.null, .null, .null, .int 0, .int 0, .int 0] : List Value) i := by decide +kernel
  exact h i hi
set_option maxRecDepth 100000 in
theorem wi_X6 : ∀ w ∈ u_ws RX6 TX6 10, w ∈ ab_G := by
  show ∀ w ∈ [u_lay RX6 TX6 0, u_lay RX6 TX6 1, u_lay RX6 TX6 2, u_lay RX6 TX6 3, u_lay RX6 TX6 4, u_lay RX6 TX6 5, u_lay RX6 TX6 6, u_lay RX6 TX6 7, u_lay RX6 TX6 8, u_lay RX6 TX6 9], w ∈ ab_G
  refine List.forall_mem_cons.mpr ⟨kw_171, ?_⟩
  refine List.forall_mem_cons.mpr ⟨kw_173, ?_⟩
  refine List.forall_mem_cons.mpr ⟨kw_175, ?_⟩
  refine List.forall_mem_cons.mpr ⟨kw_177, ?_⟩
  refine List.forall_mem_cons.mpr ⟨kw_179, ?_⟩
  refine List.forall_mem_cons.mpr ⟨kw_181, ?_⟩
  refine List.forall_mem_cons.mpr ⟨kw_183, ?_⟩
  refine List.forall_mem_cons.mpr ⟨kw_185, ?_⟩
  refine List.forall_mem_cons.mpr ⟨kw_187, ?_⟩
  refine List.forall_mem_cons.mpr ⟨kw_189, ?_⟩
  exact fun _ h => absurd h List.not_mem_nil
theorem df_X6 (b : ab_B) : ∀ i, i < 10 → defaultValue (tyX6 i) = vp_V (([.null, .null, .null, .null, .null, .null, .null, .int 0, .int 0, .int 0] : List Value).map (ab_v b)) i := fun i hi => by
  have h : ∀ i, i < 10 → defaultValue (tyX6 i) = vp_V ([.null, .null, .null, .null, .null, .null, .null, .int 0, .int 0, .int 0] : List Value) i := by decide +kernel
  exact h i hi
set_option maxRecDepth 100000 in
theorem wi_X7 : ∀ w ∈ u_ws RX7 TX7 13, w ∈ ab_G := by
  show ∀ w ∈ [u_lay RX7 TX7 0, u_lay RX7 TX7 1, u_lay RX7 TX7 2, u_lay RX7 TX7 3, u_lay RX7 TX7 4, u_lay RX7 TX7 5, u_lay RX7 TX7 6, u_lay RX7 TX7 7, u_lay RX7 TX7 8, u_lay RX7 TX7 9, u_lay RX7 TX7 10, u_lay RX7 TX7 11, u_lay RX7 TX7 12], w ∈ ab_G
  refine List.forall_mem_cons.mpr ⟨kw_261, ?_⟩
  refine List.forall_mem_cons.mpr ⟨kw_263, ?_⟩
  refine List.forall_mem_cons.mpr ⟨kw_265, ?_⟩
  refine List.forall_mem_cons.mpr ⟨kw_267, ?_⟩
  refine List.forall_mem_cons.mpr ⟨kw_269, ?_⟩
  refine List.forall_mem_cons.mpr ⟨kw_271, ?_⟩
  refine List.forall_mem_cons.mpr ⟨kw_273, ?_⟩
  refine List.forall_mem_cons.mpr ⟨kw_275, ?_⟩
  refine List.forall_mem_cons.mpr ⟨kw_277, ?_⟩
  refine List.forall_mem_cons.mpr ⟨kw_279, ?_⟩
  refine List.forall_mem_cons.mpr ⟨kw_281, ?_⟩
  refine List.forall_mem_cons.mpr ⟨kw_283, ?_⟩
  refine List.forall_mem_cons.mpr ⟨kw_285, ?_⟩
  exact fun _ h => absurd h List.not_mem_nil
theorem df_X7 (b : ab_B) : ∀ i, i < 13 → defaultValue (tyX7 i) = vp_V (([.null, .null, .null, .null, .null, .null, .null, .int 0, .int 0, .int 0, .int 0, .int 0, .long 0] : List Value).map (ab_v b)) i := fun i hi => by
  have h : ∀ i, i < 13 → defaultValue (tyX7 i) = vp_V ([.null, .null, .null, .null, .null, .null, .null, .int 0, .int 0, .int 0, .int 0, .int 0, .long 0] : List Value) i := by decide +kernel
  exact h i hi
set_option maxRecDepth 100000 in
theorem wi_X8 : ∀ w ∈ u_ws RX8 TX8 3, w ∈ ab_G := by
  show ∀ w ∈ [u_lay RX8 TX8 0, u_lay RX8 TX8 1, u_lay RX8 TX8 2], w ∈ ab_G
  refine List.forall_mem_cons.mpr ⟨kw_42, ?_⟩
  refine List.forall_mem_cons.mpr ⟨kw_44, ?_⟩
  refine List.forall_mem_cons.mpr ⟨kw_46, ?_⟩
  exact fun _ h => absurd h List.not_mem_nil
theorem df_X8 (b : ab_B) : ∀ i, i < 3 → defaultValue (tyX8 i) = vp_V (([.null, .int 0, .int 0] : List Value).map (ab_v b)) i := fun i hi => by
  have h : ∀ i, i < 3 → defaultValue (tyX8 i) = vp_V ([.null, .int 0, .int 0] : List Value) i := by decide +kernel
  exact h i hi
set_option maxRecDepth 100000 in
theorem wi_X9 : ∀ w ∈ u_ws RX9 TX9 10, w ∈ ab_G := by
  show ∀ w ∈ [u_lay RX9 TX9 0, u_lay RX9 TX9 1, u_lay RX9 TX9 2, u_lay RX9 TX9 3, u_lay RX9 TX9 4, u_lay RX9 TX9 5, u_lay RX9 TX9 6, u_lay RX9 TX9 7, u_lay RX9 TX9 8, u_lay RX9 TX9 9], w ∈ ab_G
  refine List.forall_mem_cons.mpr ⟨kw_76, ?_⟩
  refine List.forall_mem_cons.mpr ⟨kw_78, ?_⟩
  refine List.forall_mem_cons.mpr ⟨kw_80, ?_⟩
  refine List.forall_mem_cons.mpr ⟨kw_82, ?_⟩
  refine List.forall_mem_cons.mpr ⟨kw_84, ?_⟩
  refine List.forall_mem_cons.mpr ⟨kw_86, ?_⟩
  refine List.forall_mem_cons.mpr ⟨kw_88, ?_⟩
  refine List.forall_mem_cons.mpr ⟨kw_90, ?_⟩
  refine List.forall_mem_cons.mpr ⟨kw_92, ?_⟩
  refine List.forall_mem_cons.mpr ⟨kw_94, ?_⟩
  exact fun _ h => absurd h List.not_mem_nil
theorem df_X9 (b : ab_B) : ∀ i, i < 10 → defaultValue (tyX9 i) = vp_V (([.null, .null, .null, .int 0, .int 0, .int 0, .int 0, .int 0, .long 0, .int 0] : List Value).map (ab_v b)) i := fun i hi => by
  have h : ∀ i, i < 10 → defaultValue (tyX9 i) = vp_V ([.null, .null, .null, .int 0, .int 0, .int 0, .int 0, .int 0, .long 0, .int 0] : List Value) i := by decide +kernel
  exact h i hi
set_option maxRecDepth 100000 in
theorem wi_X10 : ∀ w ∈ u_ws RX10 TX10 19, w ∈ ab_G := by
  show ∀ w ∈ [u_lay RX10 TX10 0, u_lay RX10 TX10 1, u_lay RX10 TX10 2, u_lay RX10 TX10 3, u_lay RX10 TX10 4, u_lay RX10 TX10 5, u_lay RX10 TX10 6, u_lay RX10 TX10 7, u_lay RX10 TX10 8, u_lay RX10 TX10 9, u_lay RX10 TX10 10, u_lay RX10 TX10 11, u_lay RX10 TX10 12, u_lay RX10 TX10 13, u_lay RX10 TX10 14, u_lay RX10 TX10 15, u_lay RX10 TX10 16, u_lay RX10 TX10 17, u_lay RX10 TX10 18], w ∈ ab_G
  refine List.forall_mem_cons.mpr ⟨kw_334, ?_⟩
  refine List.forall_mem_cons.mpr ⟨kw_336, ?_⟩
  refine List.forall_mem_cons.mpr ⟨kw_338, ?_⟩
  refine List.forall_mem_cons.mpr ⟨kw_340, ?_⟩
  refine List.forall_mem_cons.mpr ⟨kw_342, ?_⟩
  refine List.forall_mem_cons.mpr ⟨kw_344, ?_⟩
  refine List.forall_mem_cons.mpr ⟨kw_346, ?_⟩
  refine List.forall_mem_cons.mpr ⟨kw_348, ?_⟩
  refine List.forall_mem_cons.mpr ⟨kw_350, ?_⟩
  refine List.forall_mem_cons.mpr ⟨kw_352, ?_⟩
  refine List.forall_mem_cons.mpr ⟨kw_354, ?_⟩
  refine List.forall_mem_cons.mpr ⟨kw_356, ?_⟩
  refine List.forall_mem_cons.mpr ⟨kw_358, ?_⟩
  refine List.forall_mem_cons.mpr ⟨kw_360, ?_⟩
  refine List.forall_mem_cons.mpr ⟨kw_362, ?_⟩
  refine List.forall_mem_cons.mpr ⟨kw_364, ?_⟩
  refine List.forall_mem_cons.mpr ⟨kw_366, ?_⟩
  refine List.forall_mem_cons.mpr ⟨kw_368, ?_⟩
  refine List.forall_mem_cons.mpr ⟨kw_370, ?_⟩
  exact fun _ h => absurd h List.not_mem_nil
theorem df_X10 (b : ab_B) : ∀ i, i < 19 → defaultValue (tyX10 i) = vp_V (([.null, .null, .null, .null, .null, .null, .null, .null, .null, .null, .null, .null, .null, .null, .null, .null, .null, .int 0, .int 0] : List Value).map (ab_v b)) i := fun i hi => by
  have h : ∀ i, i < 19 → defaultValue (tyX10 i) = vp_V ([.null, .null, .null, .null, .null, .null, .null, .null, .null, .null, .null, .null, .null, .null, .null, .null, .null, .int 0, .int 0] : List Value) i := by decide +kernel
  exact h i hi
set_option maxRecDepth 100000 in
theorem wi_X11 : ∀ w ∈ u_ws RX11 TX11 43, w ∈ ab_G := by
  show ∀ w ∈ [u_lay RX11 TX11 0, u_lay RX11 TX11 1, u_lay RX11 TX11 2, u_lay RX11 TX11 3, u_lay RX11 TX11 4, u_lay RX11 TX11 5, u_lay RX11 TX11 6, u_lay RX11 TX11 7, u_lay RX11 TX11 8, u_lay RX11 TX11 9, u_lay RX11 TX11 10, u_lay RX11 TX11 11, u_lay RX11 TX11 12, u_lay RX11 TX11 13, u_lay RX11 TX11 14, u_lay RX11 TX11 15, u_lay RX11 TX11 16, u_lay RX11 TX11 17, u_lay RX11 TX11 18, u_lay RX11 TX11 19, u_lay RX11 TX11 20, u_lay RX11 TX11 21, u_lay RX11 TX11 22, u_lay RX11 TX11 23, u_lay RX11 TX11 24, u_lay RX11 TX11 25, u_lay RX11 TX11 26, u_lay RX11 TX11 27, u_lay RX11 TX11 28, u_lay RX11 TX11 29, u_lay RX11 TX11 30, u_lay RX11 TX11 31, u_lay RX11 TX11 32, u_lay RX11 TX11 33, u_lay RX11 TX11 34, u_lay RX11 TX11 35, u_lay RX11 TX11 36, u_lay RX11 TX11 37, u_lay RX11 TX11 38, u_lay RX11 TX11 39, u_lay RX11 TX11 40, u_lay RX11 TX11 41, u_lay RX11 TX11 42], w ∈ ab_G
  refine List.forall_mem_cons.mpr ⟨kw_1223, ?_⟩
  refine List.forall_mem_cons.mpr ⟨kw_1225, ?_⟩
  refine List.forall_mem_cons.mpr ⟨kw_1227, ?_⟩
  refine List.forall_mem_cons.mpr ⟨kw_1229, ?_⟩
  refine List.forall_mem_cons.mpr ⟨kw_1231, ?_⟩
  refine List.forall_mem_cons.mpr ⟨kw_1233, ?_⟩
  refine List.forall_mem_cons.mpr ⟨kw_1235, ?_⟩
  refine List.forall_mem_cons.mpr ⟨kw_1237, ?_⟩
  refine List.forall_mem_cons.mpr ⟨kw_1239, ?_⟩
  refine List.forall_mem_cons.mpr ⟨kw_1241, ?_⟩
  refine List.forall_mem_cons.mpr ⟨kw_1243, ?_⟩
  refine List.forall_mem_cons.mpr ⟨kw_1245, ?_⟩
  refine List.forall_mem_cons.mpr ⟨kw_1247, ?_⟩
  refine List.forall_mem_cons.mpr ⟨kw_1249, ?_⟩
  refine List.forall_mem_cons.mpr ⟨kw_1251, ?_⟩
  refine List.forall_mem_cons.mpr ⟨kw_1253, ?_⟩
  refine List.forall_mem_cons.mpr ⟨kw_1255, ?_⟩
  refine List.forall_mem_cons.mpr ⟨kw_1257, ?_⟩
  refine List.forall_mem_cons.mpr ⟨kw_1259, ?_⟩
  refine List.forall_mem_cons.mpr ⟨kw_1261, ?_⟩
  refine List.forall_mem_cons.mpr ⟨kw_1263, ?_⟩
  refine List.forall_mem_cons.mpr ⟨kw_1265, ?_⟩
  refine List.forall_mem_cons.mpr ⟨kw_1267, ?_⟩
  refine List.forall_mem_cons.mpr ⟨kw_1269, ?_⟩
  refine List.forall_mem_cons.mpr ⟨kw_1271, ?_⟩
  refine List.forall_mem_cons.mpr ⟨kw_1273, ?_⟩
  refine List.forall_mem_cons.mpr ⟨kw_1275, ?_⟩
  refine List.forall_mem_cons.mpr ⟨kw_1277, ?_⟩
  refine List.forall_mem_cons.mpr ⟨kw_1279, ?_⟩
  refine List.forall_mem_cons.mpr ⟨kw_1281, ?_⟩
  refine List.forall_mem_cons.mpr ⟨kw_1283, ?_⟩
  refine List.forall_mem_cons.mpr ⟨kw_1285, ?_⟩
  refine List.forall_mem_cons.mpr ⟨kw_1287, ?_⟩
  refine List.forall_mem_cons.mpr ⟨kw_1289, ?_⟩
  refine List.forall_mem_cons.mpr ⟨kw_1291, ?_⟩
  refine List.forall_mem_cons.mpr ⟨kw_1293, ?_⟩
  refine List.forall_mem_cons.mpr ⟨kw_1295, ?_⟩
  refine List.forall_mem_cons.mpr ⟨kw_1297, ?_⟩
  refine List.forall_mem_cons.mpr ⟨kw_1299, ?_⟩
  refine List.forall_mem_cons.mpr ⟨kw_1301, ?_⟩
  refine List.forall_mem_cons.mpr ⟨kw_1303, ?_⟩
  refine List.forall_mem_cons.mpr ⟨kw_1305, ?_⟩
  refine List.forall_mem_cons.mpr ⟨kw_1307, ?_⟩
  exact fun _ h => absurd h List.not_mem_nil
theorem df_X11 (b : ab_B) : ∀ i, i < 43 → defaultValue (tyX11 i) = vp_V (([.int 0, .null, .int 0, .int 0, .int 0, .int 0, .null, .null, .null, .null, .null, .int 0, .int 0, .int 0, .int 0, .int 0, .int 0, .long 0, .int 0, .int 0, .int 0, .null, .int 0, .null, .null, .int 0, .null, .null, .int 0, .int 0, .int 0, .null, .int 0, .null, .int 0, .int 0, .int 0, .int 0, .int 0, .null, .null, .null, .null] : List Value).map (ab_v b)) i := fun i hi => by
  have h : ∀ i, i < 43 → defaultValue (tyX11 i) = vp_V ([.int 0, .null, .int 0, .int 0, .int 0, .int 0, .null, .null, .null, .null, .null, .int 0, .int 0, .int 0, .int 0, .int 0, .int 0, .long 0, .int 0, .int 0, .int 0, .null, .int 0, .null, .null, .int 0, .null, .null, .int 0, .int 0, .int 0, .null, .int 0, .null, .int 0, .int 0, .int 0, .int 0, .int 0, .null, .null, .null, .null] : List Value) i := by decide +kernel
  exact h i hi
theorem ds_X0_init : yX0_init.cls ≠ "java/lang/invoke/MethodHandle" ∧ yX0_init.cls ≠ "java/lang/invoke/VarHandle" ∧ (parseMethodDescriptor yX0_init.desc).map (fun d => d.parameters.length) = some 0 := by decide +kernel
theorem ds_X0_drawOf : yX0_drawOf.cls ≠ "java/lang/invoke/MethodHandle" ∧ yX0_drawOf.cls ≠ "java/lang/invoke/VarHandle" ∧ (parseMethodDescriptor yX0_drawOf.desc).map (fun d => d.parameters.length) = some 1 := by decide +kernel
theorem ds_X1_init : yX1_init.cls ≠ "java/lang/invoke/MethodHandle" ∧ yX1_init.cls ≠ "java/lang/invoke/VarHandle" ∧ (parseMethodDescriptor yX1_init.desc).map (fun d => d.parameters.length) = some 0 := by decide +kernel
theorem ds_X1_amountMoved : yX1_amountMoved.cls ≠ "java/lang/invoke/MethodHandle" ∧ yX1_amountMoved.cls ≠ "java/lang/invoke/VarHandle" ∧ (parseMethodDescriptor yX1_amountMoved.desc).map (fun d => d.parameters.length) = some 3 := by decide +kernel
theorem ds_X6_ferryShore : yX6_ferryShore.cls ≠ "java/lang/invoke/MethodHandle" ∧ yX6_ferryShore.cls ≠ "java/lang/invoke/VarHandle" ∧ (parseMethodDescriptor yX6_ferryShore.desc).map (fun d => d.parameters.length) = some 0 := by decide +kernel
theorem ds_X6_apartOf : yX6_apartOf.cls ≠ "java/lang/invoke/MethodHandle" ∧ yX6_apartOf.cls ≠ "java/lang/invoke/VarHandle" ∧ (parseMethodDescriptor yX6_apartOf.desc).map (fun d => d.parameters.length) = some 2 := by decide +kernel
theorem ds_X6_isFelt : yX6_isFelt.cls ≠ "java/lang/invoke/MethodHandle" ∧ yX6_isFelt.cls ≠ "java/lang/invoke/VarHandle" ∧ (parseMethodDescriptor yX6_isFelt.desc).map (fun d => d.parameters.length) = some 2 := by decide +kernel
theorem ds_X6_allMissed : yX6_allMissed.cls ≠ "java/lang/invoke/MethodHandle" ∧ yX6_allMissed.cls ≠ "java/lang/invoke/VarHandle" ∧ (parseMethodDescriptor yX6_allMissed.desc).map (fun d => d.parameters.length) = some 1 := by decide +kernel
theorem ds_X10_slotOf : yX10_slotOf.cls ≠ "java/lang/invoke/MethodHandle" ∧ yX10_slotOf.cls ≠ "java/lang/invoke/VarHandle" ∧ (parseMethodDescriptor yX10_slotOf.desc).map (fun d => d.parameters.length) = some 2 := by decide +kernel
theorem ds_X7_amountOf : yX7_amountOf.cls ≠ "java/lang/invoke/MethodHandle" ∧ yX7_amountOf.cls ≠ "java/lang/invoke/VarHandle" ∧ (parseMethodDescriptor yX7_amountOf.desc).map (fun d => d.parameters.length) = some 2 := by decide +kernel
theorem ds_X6_lackAt : yX6_lackAt.cls ≠ "java/lang/invoke/MethodHandle" ∧ yX6_lackAt.cls ≠ "java/lang/invoke/VarHandle" ∧ (parseMethodDescriptor yX6_lackAt.desc).map (fun d => d.parameters.length) = some 2 := by decide +kernel
theorem ds_X1_plan : yX1_plan.cls ≠ "java/lang/invoke/MethodHandle" ∧ yX1_plan.cls ≠ "java/lang/invoke/VarHandle" ∧ (parseMethodDescriptor yX1_plan.desc).map (fun d => d.parameters.length) = some 2 := by decide +kernel
theorem ds_X1_carry : yX1_carry.cls ≠ "java/lang/invoke/MethodHandle" ∧ yX1_carry.cls ≠ "java/lang/invoke/VarHandle" ∧ (parseMethodDescriptor yX1_carry.desc).map (fun d => d.parameters.length) = some 2 := by decide +kernel
theorem ds_X7_leftAfter : yX7_leftAfter.cls ≠ "java/lang/invoke/MethodHandle" ∧ yX7_leftAfter.cls ≠ "java/lang/invoke/VarHandle" ∧ (parseMethodDescriptor yX7_leftAfter.desc).map (fun d => d.parameters.length) = some 2 := by decide +kernel
theorem ds_X6_makeAndEat : yX6_makeAndEat.cls ≠ "java/lang/invoke/MethodHandle" ∧ yX6_makeAndEat.cls ≠ "java/lang/invoke/VarHandle" ∧ (parseMethodDescriptor yX6_makeAndEat.desc).map (fun d => d.parameters.length) = some 1 := by decide +kernel
theorem ds_X6_countApart : yX6_countApart.cls ≠ "java/lang/invoke/MethodHandle" ∧ yX6_countApart.cls ≠ "java/lang/invoke/VarHandle" ∧ (parseMethodDescriptor yX6_countApart.desc).map (fun d => d.parameters.length) = some 1 := by decide +kernel
theorem ds_X1_passDays : yX1_passDays.cls ≠ "java/lang/invoke/MethodHandle" ∧ yX1_passDays.cls ≠ "java/lang/invoke/VarHandle" ∧ (parseMethodDescriptor yX1_passDays.desc).map (fun d => d.parameters.length) = some 3 := by decide +kernel
theorem ds_X2_init : yX2_init.cls ≠ "java/lang/invoke/MethodHandle" ∧ yX2_init.cls ≠ "java/lang/invoke/VarHandle" ∧ (parseMethodDescriptor yX2_init.desc).map (fun d => d.parameters.length) = some 0 := by decide +kernel
theorem ds_X2_forget : yX2_forget.cls ≠ "java/lang/invoke/MethodHandle" ∧ yX2_forget.cls ≠ "java/lang/invoke/VarHandle" ∧ (parseMethodDescriptor yX2_forget.desc).map (fun d => d.parameters.length) = some 0 := by decide +kernel
theorem ds_X2_dropOldest : yX2_dropOldest.cls ≠ "java/lang/invoke/MethodHandle" ∧ yX2_dropOldest.cls ≠ "java/lang/invoke/VarHandle" ∧ (parseMethodDescriptor yX2_dropOldest.desc).map (fun d => d.parameters.length) = some 0 := by decide +kernel
theorem ds_X6_init : yX6_init.cls ≠ "java/lang/invoke/MethodHandle" ∧ yX6_init.cls ≠ "java/lang/invoke/VarHandle" ∧ (parseMethodDescriptor yX6_init.desc).map (fun d => d.parameters.length) = some 0 := by decide +kernel
theorem ds_X6_copyFrom : yX6_copyFrom.cls ≠ "java/lang/invoke/MethodHandle" ∧ yX6_copyFrom.cls ≠ "java/lang/invoke/VarHandle" ∧ (parseMethodDescriptor yX6_copyFrom.desc).map (fun d => d.parameters.length) = some 1 := by decide +kernel
theorem ds_X2_keep : yX2_keep.cls ≠ "java/lang/invoke/MethodHandle" ∧ yX2_keep.cls ≠ "java/lang/invoke/VarHandle" ∧ (parseMethodDescriptor yX2_keep.desc).map (fun d => d.parameters.length) = some 1 := by decide +kernel
theorem ds_X2_takeBack : yX2_takeBack.cls ≠ "java/lang/invoke/MethodHandle" ∧ yX2_takeBack.cls ≠ "java/lang/invoke/VarHandle" ∧ (parseMethodDescriptor yX2_takeBack.desc).map (fun d => d.parameters.length) = some 1 := by decide +kernel
theorem ds_X7_init : yX7_init.cls ≠ "java/lang/invoke/MethodHandle" ∧ yX7_init.cls ≠ "java/lang/invoke/VarHandle" ∧ (parseMethodDescriptor yX7_init.desc).map (fun d => d.parameters.length) = some 0 := by decide +kernel
theorem ds_X5_init : yX5_init.cls ≠ "java/lang/invoke/MethodHandle" ∧ yX5_init.cls ≠ "java/lang/invoke/VarHandle" ∧ (parseMethodDescriptor yX5_init.desc).map (fun d => d.parameters.length) = some 0 := by decide +kernel
theorem ds_X3_init : yX3_init.cls ≠ "java/lang/invoke/MethodHandle" ∧ yX3_init.cls ≠ "java/lang/invoke/VarHandle" ∧ (parseMethodDescriptor yX3_init.desc).map (fun d => d.parameters.length) = some 0 := by decide +kernel
theorem ds_X4_init : yX4_init.cls ≠ "java/lang/invoke/MethodHandle" ∧ yX4_init.cls ≠ "java/lang/invoke/VarHandle" ∧ (parseMethodDescriptor yX4_init.desc).map (fun d => d.parameters.length) = some 0 := by decide +kernel
theorem ds_X9_step : yX9_step.cls ≠ "java/lang/invoke/MethodHandle" ∧ yX9_step.cls ≠ "java/lang/invoke/VarHandle" ∧ (parseMethodDescriptor yX9_step.desc).map (fun d => d.parameters.length) = some 0 := by decide +kernel
theorem ds_X9_fail : yX9_fail.cls ≠ "java/lang/invoke/MethodHandle" ∧ yX9_fail.cls ≠ "java/lang/invoke/VarHandle" ∧ (parseMethodDescriptor yX9_fail.desc).map (fun d => d.parameters.length) = some 1 := by decide +kernel
theorem ds_X7_manNamed : yX7_manNamed.cls ≠ "java/lang/invoke/MethodHandle" ∧ yX7_manNamed.cls ≠ "java/lang/invoke/VarHandle" ∧ (parseMethodDescriptor yX7_manNamed.desc).map (fun d => d.parameters.length) = some 1 := by decide +kernel
theorem ds_X9_takeName : yX9_takeName.cls ≠ "java/lang/invoke/MethodHandle" ∧ yX9_takeName.cls ≠ "java/lang/invoke/VarHandle" ∧ (parseMethodDescriptor yX9_takeName.desc).map (fun d => d.parameters.length) = some 0 := by decide +kernel
theorem ds_X7_goodNamed : yX7_goodNamed.cls ≠ "java/lang/invoke/MethodHandle" ∧ yX7_goodNamed.cls ≠ "java/lang/invoke/VarHandle" ∧ (parseMethodDescriptor yX7_goodNamed.desc).map (fun d => d.parameters.length) = some 1 := by decide +kernel
theorem ds_X7_takeGood : yX7_takeGood.cls ≠ "java/lang/invoke/MethodHandle" ∧ yX7_takeGood.cls ≠ "java/lang/invoke/VarHandle" ∧ (parseMethodDescriptor yX7_takeGood.desc).map (fun d => d.parameters.length) = some 1 := by decide +kernel
theorem ds_X9_takeNumber : yX9_takeNumber.cls ≠ "java/lang/invoke/MethodHandle" ∧ yX9_takeNumber.cls ≠ "java/lang/invoke/VarHandle" ∧ (parseMethodDescriptor yX9_takeNumber.desc).map (fun d => d.parameters.length) = some 2 := by decide +kernel
theorem ds_X4_addLine : yX4_addLine.cls ≠ "java/lang/invoke/MethodHandle" ∧ yX4_addLine.cls ≠ "java/lang/invoke/VarHandle" ∧ (parseMethodDescriptor yX4_addLine.desc).map (fun d => d.parameters.length) = some 3 := by decide +kernel
theorem ds_X4_readDeed : yX4_readDeed.cls ≠ "java/lang/invoke/MethodHandle" ∧ yX4_readDeed.cls ≠ "java/lang/invoke/VarHandle" ∧ (parseMethodDescriptor yX4_readDeed.desc).map (fun d => d.parameters.length) = some 3 := by decide +kernel
theorem ds_X4_readDays : yX4_readDays.cls ≠ "java/lang/invoke/MethodHandle" ∧ yX4_readDays.cls ≠ "java/lang/invoke/VarHandle" ∧ (parseMethodDescriptor yX4_readDays.desc).map (fun d => d.parameters.length) = some 1 := by decide +kernel
theorem ds_X4_readDeath : yX4_readDeath.cls ≠ "java/lang/invoke/MethodHandle" ∧ yX4_readDeath.cls ≠ "java/lang/invoke/VarHandle" ∧ (parseMethodDescriptor yX4_readDeath.desc).map (fun d => d.parameters.length) = some 2 := by decide +kernel
theorem ds_X4_readLine : yX4_readLine.cls ≠ "java/lang/invoke/MethodHandle" ∧ yX4_readLine.cls ≠ "java/lang/invoke/VarHandle" ∧ (parseMethodDescriptor yX4_readLine.desc).map (fun d => d.parameters.length) = some 2 := by decide +kernel
theorem ds_X9_takeSign : yX9_takeSign.cls ≠ "java/lang/invoke/MethodHandle" ∧ yX9_takeSign.cls ≠ "java/lang/invoke/VarHandle" ∧ (parseMethodDescriptor yX9_takeSign.desc).map (fun d => d.parameters.length) = some 1 := by decide +kernel
theorem ds_X4_readText : yX4_readText.cls ≠ "java/lang/invoke/MethodHandle" ∧ yX4_readText.cls ≠ "java/lang/invoke/VarHandle" ∧ (parseMethodDescriptor yX4_readText.desc).map (fun d => d.parameters.length) = some 2 := by decide +kernel
theorem ds_X5_copyFrom : yX5_copyFrom.cls ≠ "java/lang/invoke/MethodHandle" ∧ yX5_copyFrom.cls ≠ "java/lang/invoke/VarHandle" ∧ (parseMethodDescriptor yX5_copyFrom.desc).map (fun d => d.parameters.length) = some 1 := by decide +kernel
theorem ds_X5_addOp : yX5_addOp.cls ≠ "java/lang/invoke/MethodHandle" ∧ yX5_addOp.cls ≠ "java/lang/invoke/VarHandle" ∧ (parseMethodDescriptor yX5_addOp.desc).map (fun d => d.parameters.length) = some 3 := by decide +kernel
theorem ds_X5_readOnShore : yX5_readOnShore.cls ≠ "java/lang/invoke/MethodHandle" ∧ yX5_readOnShore.cls ≠ "java/lang/invoke/VarHandle" ∧ (parseMethodDescriptor yX5_readOnShore.desc).map (fun d => d.parameters.length) = some 2 := by decide +kernel
theorem ds_X5_readCompared : yX5_readCompared.cls ≠ "java/lang/invoke/MethodHandle" ∧ yX5_readCompared.cls ≠ "java/lang/invoke/VarHandle" ∧ (parseMethodDescriptor yX5_readCompared.desc).map (fun d => d.parameters.length) = some 2 := by decide +kernel
theorem ds_X5_readCond : yX5_readCond.cls ≠ "java/lang/invoke/MethodHandle" ∧ yX5_readCond.cls ≠ "java/lang/invoke/VarHandle" ∧ (parseMethodDescriptor yX5_readCond.desc).map (fun d => d.parameters.length) = some 2 := by decide +kernel
theorem ds_X5_readText : yX5_readText.cls ≠ "java/lang/invoke/MethodHandle" ∧ yX5_readText.cls ≠ "java/lang/invoke/VarHandle" ∧ (parseMethodDescriptor yX5_readText.desc).map (fun d => d.parameters.length) = some 1 := by decide +kernel
theorem ds_X5_readAll : yX5_readAll.cls ≠ "java/lang/invoke/MethodHandle" ∧ yX5_readAll.cls ≠ "java/lang/invoke/VarHandle" ∧ (parseMethodDescriptor yX5_readAll.desc).map (fun d => d.parameters.length) = some 2 := by decide +kernel
theorem ds_X5_readOne : yX5_readOne.cls ≠ "java/lang/invoke/MethodHandle" ∧ yX5_readOne.cls ≠ "java/lang/invoke/VarHandle" ∧ (parseMethodDescriptor yX5_readOne.desc).map (fun d => d.parameters.length) = some 2 := by decide +kernel
theorem ds_X5_readBracket : yX5_readBracket.cls ≠ "java/lang/invoke/MethodHandle" ∧ yX5_readBracket.cls ≠ "java/lang/invoke/VarHandle" ∧ (parseMethodDescriptor yX5_readBracket.desc).map (fun d => d.parameters.length) = some 2 := by decide +kernel
theorem ds_X6_isFalse : yX6_isFalse.cls ≠ "java/lang/invoke/MethodHandle" ∧ yX6_isFalse.cls ≠ "java/lang/invoke/VarHandle" ∧ (parseMethodDescriptor yX6_isFalse.desc).map (fun d => d.parameters.length) = some 2 := by decide +kernel
theorem ds_X5_isSoThere : yX5_isSoThere.cls ≠ "java/lang/invoke/MethodHandle" ∧ yX5_isSoThere.cls ≠ "java/lang/invoke/VarHandle" ∧ (parseMethodDescriptor yX5_isSoThere.desc).map (fun d => d.parameters.length) = some 4 := by decide +kernel
theorem ds_X5_valueOf : yX5_valueOf.cls ≠ "java/lang/invoke/MethodHandle" ∧ yX5_valueOf.cls ≠ "java/lang/invoke/VarHandle" ∧ (parseMethodDescriptor yX5_valueOf.desc).map (fun d => d.parameters.length) = some 3 := by decide +kernel
theorem ds_X5_isSoCompared : yX5_isSoCompared.cls ≠ "java/lang/invoke/MethodHandle" ∧ yX5_isSoCompared.cls ≠ "java/lang/invoke/VarHandle" ∧ (parseMethodDescriptor yX5_isSoCompared.desc).map (fun d => d.parameters.length) = some 3 := by decide +kernel
theorem ds_X5_isSo : yX5_isSo.cls ≠ "java/lang/invoke/MethodHandle" ∧ yX5_isSo.cls ≠ "java/lang/invoke/VarHandle" ∧ (parseMethodDescriptor yX5_isSo.desc).map (fun d => d.parameters.length) = some 4 := by decide +kernel
theorem ds_X5_holdsOf : yX5_holdsOf.cls ≠ "java/lang/invoke/MethodHandle" ∧ yX5_holdsOf.cls ≠ "java/lang/invoke/VarHandle" ∧ (parseMethodDescriptor yX5_holdsOf.desc).map (fun d => d.parameters.length) = some 3 := by decide +kernel
theorem ds_X6_beginAs : yX6_beginAs.cls ≠ "java/lang/invoke/MethodHandle" ∧ yX6_beginAs.cls ≠ "java/lang/invoke/VarHandle" ∧ (parseMethodDescriptor yX6_beginAs.desc).map (fun d => d.parameters.length) = some 1 := by decide +kernel
theorem ds_X6_looksLike : yX6_looksLike.cls ≠ "java/lang/invoke/MethodHandle" ∧ yX6_looksLike.cls ≠ "java/lang/invoke/VarHandle" ∧ (parseMethodDescriptor yX6_looksLike.desc).map (fun d => d.parameters.length) = some 1 := by decide +kernel
theorem ds_X6_hungerInAll : yX6_hungerInAll.cls ≠ "java/lang/invoke/MethodHandle" ∧ yX6_hungerInAll.cls ≠ "java/lang/invoke/VarHandle" ∧ (parseMethodDescriptor yX6_hungerInAll.desc).map (fun d => d.parameters.length) = some 0 := by decide +kernel
theorem ds_X6_isAlive : yX6_isAlive.cls ≠ "java/lang/invoke/MethodHandle" ∧ yX6_isAlive.cls ≠ "java/lang/invoke/VarHandle" ∧ (parseMethodDescriptor yX6_isAlive.desc).map (fun d => d.parameters.length) = some 1 := by decide +kernel
theorem ds_X6_menOn : yX6_menOn.cls ≠ "java/lang/invoke/MethodHandle" ∧ yX6_menOn.cls ≠ "java/lang/invoke/VarHandle" ∧ (parseMethodDescriptor yX6_menOn.desc).map (fun d => d.parameters.length) = some 2 := by decide +kernel
theorem ds_X6_missersOf : yX6_missersOf.cls ≠ "java/lang/invoke/MethodHandle" ∧ yX6_missersOf.cls ≠ "java/lang/invoke/VarHandle" ∧ (parseMethodDescriptor yX6_missersOf.desc).map (fun d => d.parameters.length) = some 2 := by decide +kernel
theorem ds_X6_missedBy : yX6_missedBy.cls ≠ "java/lang/invoke/MethodHandle" ∧ yX6_missedBy.cls ≠ "java/lang/invoke/VarHandle" ∧ (parseMethodDescriptor yX6_missedBy.desc).map (fun d => d.parameters.length) = some 2 := by decide +kernel
theorem ds_X6_couldBeMissed : yX6_couldBeMissed.cls ≠ "java/lang/invoke/MethodHandle" ∧ yX6_couldBeMissed.cls ≠ "java/lang/invoke/VarHandle" ∧ (parseMethodDescriptor yX6_couldBeMissed.desc).map (fun d => d.parameters.length) = some 2 := by decide +kernel
theorem ds_X6_whyNot : yX6_whyNot.cls ≠ "java/lang/invoke/MethodHandle" ∧ yX6_whyNot.cls ≠ "java/lang/invoke/VarHandle" ∧ (parseMethodDescriptor yX6_whyNot.desc).map (fun d => d.parameters.length) = some 3 := by decide +kernel
theorem ds_X6_perform : yX6_perform.cls ≠ "java/lang/invoke/MethodHandle" ∧ yX6_perform.cls ≠ "java/lang/invoke/VarHandle" ∧ (parseMethodDescriptor yX6_perform.desc).map (fun d => d.parameters.length) = some 3 := by decide +kernel
theorem ds_X6_attempt : yX6_attempt.cls ≠ "java/lang/invoke/MethodHandle" ∧ yX6_attempt.cls ≠ "java/lang/invoke/VarHandle" ∧ (parseMethodDescriptor yX6_attempt.desc).map (fun d => d.parameters.length) = some 3 := by decide +kernel
theorem ds_X7_stockAfter : yX7_stockAfter.cls ≠ "java/lang/invoke/MethodHandle" ∧ yX7_stockAfter.cls ≠ "java/lang/invoke/VarHandle" ∧ (parseMethodDescriptor yX7_stockAfter.desc).map (fun d => d.parameters.length) = some 2 := by decide +kernel
theorem ds_X7_copyFrom : yX7_copyFrom.cls ≠ "java/lang/invoke/MethodHandle" ∧ yX7_copyFrom.cls ≠ "java/lang/invoke/VarHandle" ∧ (parseMethodDescriptor yX7_copyFrom.desc).map (fun d => d.parameters.length) = some 1 := by decide +kernel
theorem ds_X7_clear : yX7_clear.cls ≠ "java/lang/invoke/MethodHandle" ∧ yX7_clear.cls ≠ "java/lang/invoke/VarHandle" ∧ (parseMethodDescriptor yX7_clear.desc).map (fun d => d.parameters.length) = some 0 := by decide +kernel
theorem ds_X7_readAmount : yX7_readAmount.cls ≠ "java/lang/invoke/MethodHandle" ∧ yX7_readAmount.cls ≠ "java/lang/invoke/VarHandle" ∧ (parseMethodDescriptor yX7_readAmount.desc).map (fun d => d.parameters.length) = some 2 := by decide +kernel
theorem ds_X7_readLoad : yX7_readLoad.cls ≠ "java/lang/invoke/MethodHandle" ∧ yX7_readLoad.cls ≠ "java/lang/invoke/VarHandle" ∧ (parseMethodDescriptor yX7_readLoad.desc).map (fun d => d.parameters.length) = some 1 := by decide +kernel
theorem ds_X7_takeNewName : yX7_takeNewName.cls ≠ "java/lang/invoke/MethodHandle" ∧ yX7_takeNewName.cls ≠ "java/lang/invoke/VarHandle" ∧ (parseMethodDescriptor yX7_takeNewName.desc).map (fun d => d.parameters.length) = some 1 := by decide +kernel
theorem ds_X7_readGood : yX7_readGood.cls ≠ "java/lang/invoke/MethodHandle" ∧ yX7_readGood.cls ≠ "java/lang/invoke/VarHandle" ∧ (parseMethodDescriptor yX7_readGood.desc).map (fun d => d.parameters.length) = some 1 := by decide +kernel
theorem ds_X7_readMan : yX7_readMan.cls ≠ "java/lang/invoke/MethodHandle" ∧ yX7_readMan.cls ≠ "java/lang/invoke/VarHandle" ∧ (parseMethodDescriptor yX7_readMan.desc).map (fun d => d.parameters.length) = some 1 := by decide +kernel
theorem ds_X7_takeMan : yX7_takeMan.cls ≠ "java/lang/invoke/MethodHandle" ∧ yX7_takeMan.cls ≠ "java/lang/invoke/VarHandle" ∧ (parseMethodDescriptor yX7_takeMan.desc).map (fun d => d.parameters.length) = some 1 := by decide +kernel
theorem ds_X7_isMissTold : yX7_isMissTold.cls ≠ "java/lang/invoke/MethodHandle" ∧ yX7_isMissTold.cls ≠ "java/lang/invoke/VarHandle" ∧ (parseMethodDescriptor yX7_isMissTold.desc).map (fun d => d.parameters.length) = some 2 := by decide +kernel
theorem ds_X7_readMisses : yX7_readMisses.cls ≠ "java/lang/invoke/MethodHandle" ∧ yX7_readMisses.cls ≠ "java/lang/invoke/VarHandle" ∧ (parseMethodDescriptor yX7_readMisses.desc).map (fun d => d.parameters.length) = some 1 := by decide +kernel
theorem ds_X7_readLine : yX7_readLine.cls ≠ "java/lang/invoke/MethodHandle" ∧ yX7_readLine.cls ≠ "java/lang/invoke/VarHandle" ∧ (parseMethodDescriptor yX7_readLine.desc).map (fun d => d.parameters.length) = some 1 := by decide +kernel
theorem ds_X7_readText : yX7_readText.cls ≠ "java/lang/invoke/MethodHandle" ∧ yX7_readText.cls ≠ "java/lang/invoke/VarHandle" ∧ (parseMethodDescriptor yX7_readText.desc).map (fun d => d.parameters.length) = some 1 := by decide +kernel
theorem ds_X8_init : yX8_init.cls ≠ "java/lang/invoke/MethodHandle" ∧ yX8_init.cls ≠ "java/lang/invoke/VarHandle" ∧ (parseMethodDescriptor yX8_init.desc).map (fun d => d.parameters.length) = some 0 := by decide +kernel
theorem ds_X8_put : yX8_put.cls ≠ "java/lang/invoke/MethodHandle" ∧ yX8_put.cls ≠ "java/lang/invoke/VarHandle" ∧ (parseMethodDescriptor yX8_put.desc).map (fun d => d.parameters.length) = some 1 := by decide +kernel
theorem ds_X8_valueAt : yX8_valueAt.cls ≠ "java/lang/invoke/MethodHandle" ∧ yX8_valueAt.cls ≠ "java/lang/invoke/VarHandle" ∧ (parseMethodDescriptor yX8_valueAt.desc).map (fun d => d.parameters.length) = some 1 := by decide +kernel
theorem ds_X9_clear : yX9_clear.cls ≠ "java/lang/invoke/MethodHandle" ∧ yX9_clear.cls ≠ "java/lang/invoke/VarHandle" ∧ (parseMethodDescriptor yX9_clear.desc).map (fun d => d.parameters.length) = some 0 := by decide +kernel
theorem ds_X8_skipBlanks : yX8_skipBlanks.cls ≠ "java/lang/invoke/MethodHandle" ∧ yX8_skipBlanks.cls ≠ "java/lang/invoke/VarHandle" ∧ (parseMethodDescriptor yX8_skipBlanks.desc).map (fun d => d.parameters.length) = some 0 := by decide +kernel
theorem ds_X8_isLetter : yX8_isLetter.cls ≠ "java/lang/invoke/MethodHandle" ∧ yX8_isLetter.cls ≠ "java/lang/invoke/VarHandle" ∧ (parseMethodDescriptor yX8_isLetter.desc).map (fun d => d.parameters.length) = some 1 := by decide +kernel
theorem ds_X8_isDigit : yX8_isDigit.cls ≠ "java/lang/invoke/MethodHandle" ∧ yX8_isDigit.cls ≠ "java/lang/invoke/VarHandle" ∧ (parseMethodDescriptor yX8_isDigit.desc).map (fun d => d.parameters.length) = some 1 := by decide +kernel
theorem ds_J0_coder_7d493 : yJ0_coder_7d493.cls ≠ "java/lang/invoke/MethodHandle" ∧ yJ0_coder_7d493.cls ≠ "java/lang/invoke/VarHandle" ∧ (parseMethodDescriptor yJ0_coder_7d493.desc).map (fun d => d.parameters.length) = some 0 := by decide +kernel
theorem ds_J0_length_8abf5 : yJ0_length_8abf5.cls ≠ "java/lang/invoke/MethodHandle" ∧ yJ0_length_8abf5.cls ≠ "java/lang/invoke/VarHandle" ∧ (parseMethodDescriptor yJ0_length_8abf5.desc).map (fun d => d.parameters.length) = some 0 := by decide +kernel
theorem ds_J0_isLatin1_aae02 : yJ0_isLatin1_aae02.cls ≠ "java/lang/invoke/MethodHandle" ∧ yJ0_isLatin1_aae02.cls ≠ "java/lang/invoke/VarHandle" ∧ (parseMethodDescriptor yJ0_isLatin1_aae02.desc).map (fun d => d.parameters.length) = some 0 := by decide +kernel
theorem ds_J3_checkIndex_8e157 : yJ3_checkIndex_8e157.cls ≠ "java/lang/invoke/MethodHandle" ∧ yJ3_checkIndex_8e157.cls ≠ "java/lang/invoke/VarHandle" ∧ (parseMethodDescriptor yJ3_checkIndex_8e157.desc).map (fun d => d.parameters.length) = some 3 := by decide +kernel
theorem ds_J0_checkIndex_df160 : yJ0_checkIndex_df160.cls ≠ "java/lang/invoke/MethodHandle" ∧ yJ0_checkIndex_df160.cls ≠ "java/lang/invoke/VarHandle" ∧ (parseMethodDescriptor yJ0_checkIndex_df160.desc).map (fun d => d.parameters.length) = some 2 := by decide +kernel
theorem ds_J1_charAt_3b067 : yJ1_charAt_3b067.cls ≠ "java/lang/invoke/MethodHandle" ∧ yJ1_charAt_3b067.cls ≠ "java/lang/invoke/VarHandle" ∧ (parseMethodDescriptor yJ1_charAt_3b067.desc).map (fun d => d.parameters.length) = some 2 := by decide +kernel
theorem ds_J0_charAt_5068e : yJ0_charAt_5068e.cls ≠ "java/lang/invoke/MethodHandle" ∧ yJ0_charAt_5068e.cls ≠ "java/lang/invoke/VarHandle" ∧ (parseMethodDescriptor yJ0_charAt_5068e.desc).map (fun d => d.parameters.length) = some 1 := by decide +kernel
theorem ds_X8_isToldWord : yX8_isToldWord.cls ≠ "java/lang/invoke/MethodHandle" ∧ yX8_isToldWord.cls ≠ "java/lang/invoke/VarHandle" ∧ (parseMethodDescriptor yX8_isToldWord.desc).map (fun d => d.parameters.length) = some 3 := by decide +kernel
theorem ds_X8_kindOfWord : yX8_kindOfWord.cls ≠ "java/lang/invoke/MethodHandle" ∧ yX8_kindOfWord.cls ≠ "java/lang/invoke/VarHandle" ∧ (parseMethodDescriptor yX8_kindOfWord.desc).map (fun d => d.parameters.length) = some 2 := by decide +kernel
theorem ds_X9_add : yX9_add.cls ≠ "java/lang/invoke/MethodHandle" ∧ yX9_add.cls ≠ "java/lang/invoke/VarHandle" ∧ (parseMethodDescriptor yX9_add.desc).map (fun d => d.parameters.length) = some 3 := by decide +kernel
theorem ds_X8_cutRun : yX8_cutRun.cls ≠ "java/lang/invoke/MethodHandle" ∧ yX8_cutRun.cls ≠ "java/lang/invoke/VarHandle" ∧ (parseMethodDescriptor yX8_cutRun.desc).map (fun d => d.parameters.length) = some 1 := by decide +kernel
theorem ds_X8_isSign : yX8_isSign.cls ≠ "java/lang/invoke/MethodHandle" ∧ yX8_isSign.cls ≠ "java/lang/invoke/VarHandle" ∧ (parseMethodDescriptor yX8_isSign.desc).map (fun d => d.parameters.length) = some 1 := by decide +kernel
theorem ds_X8_cutToken : yX8_cutToken.cls ≠ "java/lang/invoke/MethodHandle" ∧ yX8_cutToken.cls ≠ "java/lang/invoke/VarHandle" ∧ (parseMethodDescriptor yX8_cutToken.desc).map (fun d => d.parameters.length) = some 1 := by decide +kernel
theorem ds_X8_moveInto : yX8_moveInto.cls ≠ "java/lang/invoke/MethodHandle" ∧ yX8_moveInto.cls ≠ "java/lang/invoke/VarHandle" ∧ (parseMethodDescriptor yX8_moveInto.desc).map (fun d => d.parameters.length) = some 2 := by decide +kernel
theorem ds_X9_init : yX9_init.cls ≠ "java/lang/invoke/MethodHandle" ∧ yX9_init.cls ≠ "java/lang/invoke/VarHandle" ∧ (parseMethodDescriptor yX9_init.desc).map (fun d => d.parameters.length) = some 0 := by decide +kernel
theorem ds_X10_init : yX10_init.cls ≠ "java/lang/invoke/MethodHandle" ∧ yX10_init.cls ≠ "java/lang/invoke/VarHandle" ∧ (parseMethodDescriptor yX10_init.desc).map (fun d => d.parameters.length) = some 0 := by decide +kernel
theorem ds_X10_feed : yX10_feed.cls ≠ "java/lang/invoke/MethodHandle" ∧ yX10_feed.cls ≠ "java/lang/invoke/VarHandle" ∧ (parseMethodDescriptor yX10_feed.desc).map (fun d => d.parameters.length) = some 5 := by decide +kernel
theorem ds_X10_end : yX10_end.cls ≠ "java/lang/invoke/MethodHandle" ∧ yX10_end.cls ≠ "java/lang/invoke/VarHandle" ∧ (parseMethodDescriptor yX10_end.desc).map (fun d => d.parameters.length) = some 1 := by decide +kernel
theorem ds_X10_strait : yX10_strait.cls ≠ "java/lang/invoke/MethodHandle" ∧ yX10_strait.cls ≠ "java/lang/invoke/VarHandle" ∧ (parseMethodDescriptor yX10_strait.desc).map (fun d => d.parameters.length) = some 0 := by decide +kernel
theorem ds_X10_fault : yX10_fault.cls ≠ "java/lang/invoke/MethodHandle" ∧ yX10_fault.cls ≠ "java/lang/invoke/VarHandle" ∧ (parseMethodDescriptor yX10_fault.desc).map (fun d => d.parameters.length) = some 0 := by decide +kernel
theorem ds_X10_isGood : yX10_isGood.cls ≠ "java/lang/invoke/MethodHandle" ∧ yX10_isGood.cls ≠ "java/lang/invoke/VarHandle" ∧ (parseMethodDescriptor yX10_isGood.desc).map (fun d => d.parameters.length) = some 1 := by decide +kernel
theorem ds_X10_isShore : yX10_isShore.cls ≠ "java/lang/invoke/MethodHandle" ∧ yX10_isShore.cls ≠ "java/lang/invoke/VarHandle" ∧ (parseMethodDescriptor yX10_isShore.desc).map (fun d => d.parameters.length) = some 1 := by decide +kernel
theorem ds_X10_isSlot : yX10_isSlot.cls ≠ "java/lang/invoke/MethodHandle" ∧ yX10_isSlot.cls ≠ "java/lang/invoke/VarHandle" ∧ (parseMethodDescriptor yX10_isSlot.desc).map (fun d => d.parameters.length) = some 2 := by decide +kernel
theorem ds_X10_isMan : yX10_isMan.cls ≠ "java/lang/invoke/MethodHandle" ∧ yX10_isMan.cls ≠ "java/lang/invoke/VarHandle" ∧ (parseMethodDescriptor yX10_isMan.desc).map (fun d => d.parameters.length) = some 1 := by decide +kernel
theorem ds_X10_areLivingTwo : yX10_areLivingTwo.cls ≠ "java/lang/invoke/MethodHandle" ∧ yX10_areLivingTwo.cls ≠ "java/lang/invoke/VarHandle" ∧ (parseMethodDescriptor yX10_areLivingTwo.desc).map (fun d => d.parameters.length) = some 2 := by decide +kernel
theorem ds_X10_isWithin : yX10_isWithin.cls ≠ "java/lang/invoke/MethodHandle" ∧ yX10_isWithin.cls ≠ "java/lang/invoke/VarHandle" ∧ (parseMethodDescriptor yX10_isWithin.desc).map (fun d => d.parameters.length) = some 2 := by decide +kernel
theorem ds_X10_good : yX10_good.cls ≠ "java/lang/invoke/MethodHandle" ∧ yX10_good.cls ≠ "java/lang/invoke/VarHandle" ∧ (parseMethodDescriptor yX10_good.desc).map (fun d => d.parameters.length) = some 3 := by decide +kernel
theorem ds_X10_crossed : yX10_crossed.cls ≠ "java/lang/invoke/MethodHandle" ∧ yX10_crossed.cls ≠ "java/lang/invoke/VarHandle" ∧ (parseMethodDescriptor yX10_crossed.desc).map (fun d => d.parameters.length) = some 2 := by decide +kernel
theorem ds_X10_apart : yX10_apart.cls ≠ "java/lang/invoke/MethodHandle" ∧ yX10_apart.cls ≠ "java/lang/invoke/VarHandle" ∧ (parseMethodDescriptor yX10_apart.desc).map (fun d => d.parameters.length) = some 2 := by decide +kernel
theorem ds_X10_now : yX10_now.cls ≠ "java/lang/invoke/MethodHandle" ∧ yX10_now.cls ≠ "java/lang/invoke/VarHandle" ∧ (parseMethodDescriptor yX10_now.desc).map (fun d => d.parameters.length) = some 1 := by decide +kernel
theorem ds_X10_lacks : yX10_lacks.cls ≠ "java/lang/invoke/MethodHandle" ∧ yX10_lacks.cls ≠ "java/lang/invoke/VarHandle" ∧ (parseMethodDescriptor yX10_lacks.desc).map (fun d => d.parameters.length) = some 1 := by decide +kernel
theorem ds_X10_falses : yX10_falses.cls ≠ "java/lang/invoke/MethodHandle" ∧ yX10_falses.cls ≠ "java/lang/invoke/VarHandle" ∧ (parseMethodDescriptor yX10_falses.desc).map (fun d => d.parameters.length) = some 1 := by decide +kernel
theorem ds_J6_bitCount_0f7a4 : yJ6_bitCount_0f7a4.cls ≠ "java/lang/invoke/MethodHandle" ∧ yJ6_bitCount_0f7a4.cls ≠ "java/lang/invoke/VarHandle" ∧ (parseMethodDescriptor yJ6_bitCount_0f7a4.desc).map (fun d => d.parameters.length) = some 1 := by decide +kernel
theorem ds_X10_dearest : yX10_dearest.cls ≠ "java/lang/invoke/MethodHandle" ∧ yX10_dearest.cls ≠ "java/lang/invoke/VarHandle" ∧ (parseMethodDescriptor yX10_dearest.desc).map (fun d => d.parameters.length) = some 0 := by decide +kernel
theorem ds_X10_rats : yX10_rats.cls ≠ "java/lang/invoke/MethodHandle" ∧ yX10_rats.cls ≠ "java/lang/invoke/VarHandle" ∧ (parseMethodDescriptor yX10_rats.desc).map (fun d => d.parameters.length) = some 0 := by decide +kernel
theorem ds_X10_hoarded : yX10_hoarded.cls ≠ "java/lang/invoke/MethodHandle" ∧ yX10_hoarded.cls ≠ "java/lang/invoke/VarHandle" ∧ (parseMethodDescriptor yX10_hoarded.desc).map (fun d => d.parameters.length) = some 1 := by decide +kernel
theorem ds_X10_count : yX10_count.cls ≠ "java/lang/invoke/MethodHandle" ∧ yX10_count.cls ≠ "java/lang/invoke/VarHandle" ∧ (parseMethodDescriptor yX10_count.desc).map (fun d => d.parameters.length) = some 1 := by decide +kernel
theorem ds_X10_act : yX10_act.cls ≠ "java/lang/invoke/MethodHandle" ∧ yX10_act.cls ≠ "java/lang/invoke/VarHandle" ∧ (parseMethodDescriptor yX10_act.desc).map (fun d => d.parameters.length) = some 4 := by decide +kernel
theorem ds_X10_hoard : yX10_hoard.cls ≠ "java/lang/invoke/MethodHandle" ∧ yX10_hoard.cls ≠ "java/lang/invoke/VarHandle" ∧ (parseMethodDescriptor yX10_hoard.desc).map (fun d => d.parameters.length) = some 3 := by decide +kernel
theorem ds_X10_bare : yX10_bare.cls ≠ "java/lang/invoke/MethodHandle" ∧ yX10_bare.cls ≠ "java/lang/invoke/VarHandle" ∧ (parseMethodDescriptor yX10_bare.desc).map (fun d => d.parameters.length) = some 3 := by decide +kernel
theorem ds_X10_waste : yX10_waste.cls ≠ "java/lang/invoke/MethodHandle" ∧ yX10_waste.cls ≠ "java/lang/invoke/VarHandle" ∧ (parseMethodDescriptor yX10_waste.desc).map (fun d => d.parameters.length) = some 3 := by decide +kernel
theorem ds_X10_die : yX10_die.cls ≠ "java/lang/invoke/MethodHandle" ∧ yX10_die.cls ≠ "java/lang/invoke/VarHandle" ∧ (parseMethodDescriptor yX10_die.desc).map (fun d => d.parameters.length) = some 1 := by decide +kernel
theorem ds_X10_days : yX10_days.cls ≠ "java/lang/invoke/MethodHandle" ∧ yX10_days.cls ≠ "java/lang/invoke/VarHandle" ∧ (parseMethodDescriptor yX10_days.desc).map (fun d => d.parameters.length) = some 1 := by decide +kernel
theorem ds_X10_undo : yX10_undo.cls ≠ "java/lang/invoke/MethodHandle" ∧ yX10_undo.cls ≠ "java/lang/invoke/VarHandle" ∧ (parseMethodDescriptor yX10_undo.desc).map (fun d => d.parameters.length) = some 0 := by decide +kernel
theorem ds_X10_going : yX10_going.cls ≠ "java/lang/invoke/MethodHandle" ∧ yX10_going.cls ≠ "java/lang/invoke/VarHandle" ∧ (parseMethodDescriptor yX10_going.desc).map (fun d => d.parameters.length) = some 0 := by decide +kernel
theorem ds_X10_goes : yX10_goes.cls ≠ "java/lang/invoke/MethodHandle" ∧ yX10_goes.cls ≠ "java/lang/invoke/VarHandle" ∧ (parseMethodDescriptor yX10_goes.desc).map (fun d => d.parameters.length) = some 1 := by decide +kernel
theorem ds_X10_crosses : yX10_crosses.cls ≠ "java/lang/invoke/MethodHandle" ∧ yX10_crosses.cls ≠ "java/lang/invoke/VarHandle" ∧ (parseMethodDescriptor yX10_crosses.desc).map (fun d => d.parameters.length) = some 1 := by decide +kernel
theorem ds_X10_comes : yX10_comes.cls ≠ "java/lang/invoke/MethodHandle" ∧ yX10_comes.cls ≠ "java/lang/invoke/VarHandle" ∧ (parseMethodDescriptor yX10_comes.desc).map (fun d => d.parameters.length) = some 2 := by decide +kernel
theorem ds_X10_foreseeRoom : yX10_foreseeRoom.cls ≠ "java/lang/invoke/MethodHandle" ∧ yX10_foreseeRoom.cls ≠ "java/lang/invoke/VarHandle" ∧ (parseMethodDescriptor yX10_foreseeRoom.desc).map (fun d => d.parameters.length) = some 2 := by decide +kernel
theorem ds_X10_roomTowards : yX10_roomTowards.cls ≠ "java/lang/invoke/MethodHandle" ∧ yX10_roomTowards.cls ≠ "java/lang/invoke/VarHandle" ∧ (parseMethodDescriptor yX10_roomTowards.desc).map (fun d => d.parameters.length) = some 2 := by decide +kernel
theorem ds_X10_wouldCome : yX10_wouldCome.cls ≠ "java/lang/invoke/MethodHandle" ∧ yX10_wouldCome.cls ≠ "java/lang/invoke/VarHandle" ∧ (parseMethodDescriptor yX10_wouldCome.desc).map (fun d => d.parameters.length) = some 4 := by decide +kernel
theorem ds_X10_without : yX10_without.cls ≠ "java/lang/invoke/MethodHandle" ∧ yX10_without.cls ≠ "java/lang/invoke/VarHandle" ∧ (parseMethodDescriptor yX10_without.desc).map (fun d => d.parameters.length) = some 4 := by decide +kernel
theorem ds_X10_meet : yX10_meet.cls ≠ "java/lang/invoke/MethodHandle" ∧ yX10_meet.cls ≠ "java/lang/invoke/VarHandle" ∧ (parseMethodDescriptor yX10_meet.desc).map (fun d => d.parameters.length) = some 2 := by decide +kernel
theorem ds_X10_loads : yX10_loads.cls ≠ "java/lang/invoke/MethodHandle" ∧ yX10_loads.cls ≠ "java/lang/invoke/VarHandle" ∧ (parseMethodDescriptor yX10_loads.desc).map (fun d => d.parameters.length) = some 1 := by decide +kernel
theorem ds_X10_settles : yX10_settles.cls ≠ "java/lang/invoke/MethodHandle" ∧ yX10_settles.cls ≠ "java/lang/invoke/VarHandle" ∧ (parseMethodDescriptor yX10_settles.desc).map (fun d => d.parameters.length) = some 0 := by decide +kernel
theorem ds_X10_hunger : yX10_hunger.cls ≠ "java/lang/invoke/MethodHandle" ∧ yX10_hunger.cls ≠ "java/lang/invoke/VarHandle" ∧ (parseMethodDescriptor yX10_hunger.desc).map (fun d => d.parameters.length) = some 3 := by decide +kernel
theorem ds_X10_couldGoSo : yX10_couldGoSo.cls ≠ "java/lang/invoke/MethodHandle" ∧ yX10_couldGoSo.cls ≠ "java/lang/invoke/VarHandle" ∧ (parseMethodDescriptor yX10_couldGoSo.desc).map (fun d => d.parameters.length) = some 2 := by decide +kernel
theorem ds_X10_which : yX10_which.cls ≠ "java/lang/invoke/MethodHandle" ∧ yX10_which.cls ≠ "java/lang/invoke/VarHandle" ∧ (parseMethodDescriptor yX10_which.desc).map (fun d => d.parameters.length) = some 0 := by decide +kernel
theorem ds_X10_movePrices : yX10_movePrices.cls ≠ "java/lang/invoke/MethodHandle" ∧ yX10_movePrices.cls ≠ "java/lang/invoke/VarHandle" ∧ (parseMethodDescriptor yX10_movePrices.desc).map (fun d => d.parameters.length) = some 0 := by decide +kernel
theorem ds_X10_prices : yX10_prices.cls ≠ "java/lang/invoke/MethodHandle" ∧ yX10_prices.cls ≠ "java/lang/invoke/VarHandle" ∧ (parseMethodDescriptor yX10_prices.desc).map (fun d => d.parameters.length) = some 0 := by decide +kernel
theorem ds_X10_price : yX10_price.cls ≠ "java/lang/invoke/MethodHandle" ∧ yX10_price.cls ≠ "java/lang/invoke/VarHandle" ∧ (parseMethodDescriptor yX10_price.desc).map (fun d => d.parameters.length) = some 2 := by decide +kernel
theorem ds_X10_drawDeed : yX10_drawDeed.cls ≠ "java/lang/invoke/MethodHandle" ∧ yX10_drawDeed.cls ≠ "java/lang/invoke/VarHandle" ∧ (parseMethodDescriptor yX10_drawDeed.desc).map (fun d => d.parameters.length) = some 1 := by decide +kernel
theorem ds_X10_drawDeath : yX10_drawDeath.cls ≠ "java/lang/invoke/MethodHandle" ∧ yX10_drawDeath.cls ≠ "java/lang/invoke/VarHandle" ∧ (parseMethodDescriptor yX10_drawDeath.desc).map (fun d => d.parameters.length) = some 1 := by decide +kernel
theorem ds_X10_drawDays : yX10_drawDays.cls ≠ "java/lang/invoke/MethodHandle" ∧ yX10_drawDays.cls ≠ "java/lang/invoke/VarHandle" ∧ (parseMethodDescriptor yX10_drawDays.desc).map (fun d => d.parameters.length) = some 3 := by decide +kernel
theorem ds_X10_drawn : yX10_drawn.cls ≠ "java/lang/invoke/MethodHandle" ∧ yX10_drawn.cls ≠ "java/lang/invoke/VarHandle" ∧ (parseMethodDescriptor yX10_drawn.desc).map (fun d => d.parameters.length) = some 2 := by decide +kernel
theorem ds_X10_odds : yX10_odds.cls ≠ "java/lang/invoke/MethodHandle" ∧ yX10_odds.cls ≠ "java/lang/invoke/VarHandle" ∧ (parseMethodDescriptor yX10_odds.desc).map (fun d => d.parameters.length) = some 3 := by decide +kernel
theorem ds_X10_liveLine : yX10_liveLine.cls ≠ "java/lang/invoke/MethodHandle" ∧ yX10_liveLine.cls ≠ "java/lang/invoke/VarHandle" ∧ (parseMethodDescriptor yX10_liveLine.desc).map (fun d => d.parameters.length) = some 3 := by decide +kernel
theorem ds_X10_judgeLog : yX10_judgeLog.cls ≠ "java/lang/invoke/MethodHandle" ∧ yX10_judgeLog.cls ≠ "java/lang/invoke/VarHandle" ∧ (parseMethodDescriptor yX10_judgeLog.desc).map (fun d => d.parameters.length) = some 0 := by decide +kernel
theorem ds_X10_log : yX10_log.cls ≠ "java/lang/invoke/MethodHandle" ∧ yX10_log.cls ≠ "java/lang/invoke/VarHandle" ∧ (parseMethodDescriptor yX10_log.desc).map (fun d => d.parameters.length) = some 1 := by decide +kernel
theorem ds_X10_logged : yX10_logged.cls ≠ "java/lang/invoke/MethodHandle" ∧ yX10_logged.cls ≠ "java/lang/invoke/VarHandle" ∧ (parseMethodDescriptor yX10_logged.desc).map (fun d => d.parameters.length) = some 1 := by decide +kernel
theorem ds_X10_sentence : yX10_sentence.cls ≠ "java/lang/invoke/MethodHandle" ∧ yX10_sentence.cls ≠ "java/lang/invoke/VarHandle" ∧ (parseMethodDescriptor yX10_sentence.desc).map (fun d => d.parameters.length) = some 0 := by decide +kernel
theorem ds_X10_said : yX10_said.cls ≠ "java/lang/invoke/MethodHandle" ∧ yX10_said.cls ≠ "java/lang/invoke/VarHandle" ∧ (parseMethodDescriptor yX10_said.desc).map (fun d => d.parameters.length) = some 1 := by decide +kernel
theorem ds_X10_image : yX10_image.cls ≠ "java/lang/invoke/MethodHandle" ∧ yX10_image.cls ≠ "java/lang/invoke/VarHandle" ∧ (parseMethodDescriptor yX10_image.desc).map (fun d => d.parameters.length) = some 1 := by decide +kernel
theorem ds_X10_restore : yX10_restore.cls ≠ "java/lang/invoke/MethodHandle" ∧ yX10_restore.cls ≠ "java/lang/invoke/VarHandle" ∧ (parseMethodDescriptor yX10_restore.desc).map (fun d => d.parameters.length) = some 1 := by decide +kernel
theorem ds_X11_throwsIf : yX11_throwsIf.cls ≠ "java/lang/invoke/MethodHandle" ∧ yX11_throwsIf.cls ≠ "java/lang/invoke/VarHandle" ∧ (parseMethodDescriptor yX11_throwsIf.desc).map (fun d => d.parameters.length) = some 1 := by decide +kernel
theorem ds_X11_four : yX11_four.cls ≠ "java/lang/invoke/MethodHandle" ∧ yX11_four.cls ≠ "java/lang/invoke/VarHandle" ∧ (parseMethodDescriptor yX11_four.desc).map (fun d => d.parameters.length) = some 1 := by decide +kernel
theorem ds_X11_feed : yX11_feed.cls ≠ "java/lang/invoke/MethodHandle" ∧ yX11_feed.cls ≠ "java/lang/invoke/VarHandle" ∧ (parseMethodDescriptor yX11_feed.desc).map (fun d => d.parameters.length) = some 5 := by decide +kernel
theorem ds_X11_end : yX11_end.cls ≠ "java/lang/invoke/MethodHandle" ∧ yX11_end.cls ≠ "java/lang/invoke/VarHandle" ∧ (parseMethodDescriptor yX11_end.desc).map (fun d => d.parameters.length) = some 1 := by decide +kernel
theorem ds_X11_taken : yX11_taken.cls ≠ "java/lang/invoke/MethodHandle" ∧ yX11_taken.cls ≠ "java/lang/invoke/VarHandle" ∧ (parseMethodDescriptor yX11_taken.desc).map (fun d => d.parameters.length) = some 1 := by decide +kernel
theorem ds_X11_isIn : yX11_isIn.cls ≠ "java/lang/invoke/MethodHandle" ∧ yX11_isIn.cls ≠ "java/lang/invoke/VarHandle" ∧ (parseMethodDescriptor yX11_isIn.desc).map (fun d => d.parameters.length) = some 3 := by decide +kernel
theorem ds_X11_bitOf : yX11_bitOf.cls ≠ "java/lang/invoke/MethodHandle" ∧ yX11_bitOf.cls ≠ "java/lang/invoke/VarHandle" ∧ (parseMethodDescriptor yX11_bitOf.desc).map (fun d => d.parameters.length) = some 2 := by decide +kernel
theorem ds_X11_lesser : yX11_lesser.cls ≠ "java/lang/invoke/MethodHandle" ∧ yX11_lesser.cls ≠ "java/lang/invoke/VarHandle" ∧ (parseMethodDescriptor yX11_lesser.desc).map (fun d => d.parameters.length) = some 2 := by decide +kernel
theorem ds_X11_bits : yX11_bits.cls ≠ "java/lang/invoke/MethodHandle" ∧ yX11_bits.cls ≠ "java/lang/invoke/VarHandle" ∧ (parseMethodDescriptor yX11_bits.desc).map (fun d => d.parameters.length) = some 1 := by decide +kernel
theorem ds_X11_octet : yX11_octet.cls ≠ "java/lang/invoke/MethodHandle" ∧ yX11_octet.cls ≠ "java/lang/invoke/VarHandle" ∧ (parseMethodDescriptor yX11_octet.desc).map (fun d => d.parameters.length) = some 1 := by decide +kernel
theorem ds_X11_init : yX11_init.cls ≠ "java/lang/invoke/MethodHandle" ∧ yX11_init.cls ≠ "java/lang/invoke/VarHandle" ∧ (parseMethodDescriptor yX11_init.desc).map (fun d => d.parameters.length) = some 0 := by decide +kernel
theorem ds_X11_peek : yX11_peek.cls ≠ "java/lang/invoke/MethodHandle" ∧ yX11_peek.cls ≠ "java/lang/invoke/VarHandle" ∧ (parseMethodDescriptor yX11_peek.desc).map (fun d => d.parameters.length) = some 0 := by decide +kernel
theorem ds_X11_isSmall : yX11_isSmall.cls ≠ "java/lang/invoke/MethodHandle" ∧ yX11_isSmall.cls ≠ "java/lang/invoke/VarHandle" ∧ (parseMethodDescriptor yX11_isSmall.desc).map (fun d => d.parameters.length) = some 1 := by decide +kernel
theorem ds_X11_isDigit : yX11_isDigit.cls ≠ "java/lang/invoke/MethodHandle" ∧ yX11_isDigit.cls ≠ "java/lang/invoke/VarHandle" ∧ (parseMethodDescriptor yX11_isDigit.desc).map (fun d => d.parameters.length) = some 1 := by decide +kernel
theorem ds_X11_next : yX11_next.cls ≠ "java/lang/invoke/MethodHandle" ∧ yX11_next.cls ≠ "java/lang/invoke/VarHandle" ∧ (parseMethodDescriptor yX11_next.desc).map (fun d => d.parameters.length) = some 0 := by decide +kernel
theorem ds_X11_bad : yX11_bad.cls ≠ "java/lang/invoke/MethodHandle" ∧ yX11_bad.cls ≠ "java/lang/invoke/VarHandle" ∧ (parseMethodDescriptor yX11_bad.desc).map (fun d => d.parameters.length) = some 1 := by decide +kernel
theorem ds_X11_isWord : yX11_isWord.cls ≠ "java/lang/invoke/MethodHandle" ∧ yX11_isWord.cls ≠ "java/lang/invoke/VarHandle" ∧ (parseMethodDescriptor yX11_isWord.desc).map (fun d => d.parameters.length) = some 1 := by decide +kernel
theorem ds_X11_isSign : yX11_isSign.cls ≠ "java/lang/invoke/MethodHandle" ∧ yX11_isSign.cls ≠ "java/lang/invoke/VarHandle" ∧ (parseMethodDescriptor yX11_isSign.desc).map (fun d => d.parameters.length) = some 1 := by decide +kernel
theorem ds_X11_sign : yX11_sign.cls ≠ "java/lang/invoke/MethodHandle" ∧ yX11_sign.cls ≠ "java/lang/invoke/VarHandle" ∧ (parseMethodDescriptor yX11_sign.desc).map (fun d => d.parameters.length) = some 1 := by decide +kernel
theorem ds_X11_isName : yX11_isName.cls ≠ "java/lang/invoke/MethodHandle" ∧ yX11_isName.cls ≠ "java/lang/invoke/VarHandle" ∧ (parseMethodDescriptor yX11_isName.desc).map (fun d => d.parameters.length) = some 0 := by decide +kernel
theorem ds_X11_takes : yX11_takes.cls ≠ "java/lang/invoke/MethodHandle" ∧ yX11_takes.cls ≠ "java/lang/invoke/VarHandle" ∧ (parseMethodDescriptor yX11_takes.desc).map (fun d => d.parameters.length) = some 2 := by decide +kernel
theorem ds_X11_puts : yX11_puts.cls ≠ "java/lang/invoke/MethodHandle" ∧ yX11_puts.cls ≠ "java/lang/invoke/VarHandle" ∧ (parseMethodDescriptor yX11_puts.desc).map (fun d => d.parameters.length) = some 3 := by decide +kernel
theorem ds_X11_find : yX11_find.cls ≠ "java/lang/invoke/MethodHandle" ∧ yX11_find.cls ≠ "java/lang/invoke/VarHandle" ∧ (parseMethodDescriptor yX11_find.desc).map (fun d => d.parameters.length) = some 2 := by decide +kernel
theorem ds_X11_fresh : yX11_fresh.cls ≠ "java/lang/invoke/MethodHandle" ∧ yX11_fresh.cls ≠ "java/lang/invoke/VarHandle" ∧ (parseMethodDescriptor yX11_fresh.desc).map (fun d => d.parameters.length) = some 1 := by decide +kernel
theorem ds_X11_looksAt : yX11_looksAt.cls ≠ "java/lang/invoke/MethodHandle" ∧ yX11_looksAt.cls ≠ "java/lang/invoke/VarHandle" ∧ (parseMethodDescriptor yX11_looksAt.desc).map (fun d => d.parameters.length) = some 2 := by decide +kernel
theorem ds_X11_takesName : yX11_takesName.cls ≠ "java/lang/invoke/MethodHandle" ∧ yX11_takesName.cls ≠ "java/lang/invoke/VarHandle" ∧ (parseMethodDescriptor yX11_takesName.desc).map (fun d => d.parameters.length) = some 2 := by decide +kernel
theorem ds_X11_readMisses : yX11_readMisses.cls ≠ "java/lang/invoke/MethodHandle" ∧ yX11_readMisses.cls ≠ "java/lang/invoke/VarHandle" ∧ (parseMethodDescriptor yX11_readMisses.desc).map (fun d => d.parameters.length) = some 0 := by decide +kernel
theorem ds_X11_line : yX11_line.cls ≠ "java/lang/invoke/MethodHandle" ∧ yX11_line.cls ≠ "java/lang/invoke/VarHandle" ∧ (parseMethodDescriptor yX11_line.desc).map (fun d => d.parameters.length) = some 0 := by decide +kernel
theorem ds_X11_strait : yX11_strait.cls ≠ "java/lang/invoke/MethodHandle" ∧ yX11_strait.cls ≠ "java/lang/invoke/VarHandle" ∧ (parseMethodDescriptor yX11_strait.desc).map (fun d => d.parameters.length) = some 0 := by decide +kernel
theorem ds_X11_fault : yX11_fault.cls ≠ "java/lang/invoke/MethodHandle" ∧ yX11_fault.cls ≠ "java/lang/invoke/VarHandle" ∧ (parseMethodDescriptor yX11_fault.desc).map (fun d => d.parameters.length) = some 0 := by decide +kernel
theorem ds_X11_isGood : yX11_isGood.cls ≠ "java/lang/invoke/MethodHandle" ∧ yX11_isGood.cls ≠ "java/lang/invoke/VarHandle" ∧ (parseMethodDescriptor yX11_isGood.desc).map (fun d => d.parameters.length) = some 1 := by decide +kernel
theorem ds_X11_isShore : yX11_isShore.cls ≠ "java/lang/invoke/MethodHandle" ∧ yX11_isShore.cls ≠ "java/lang/invoke/VarHandle" ∧ (parseMethodDescriptor yX11_isShore.desc).map (fun d => d.parameters.length) = some 1 := by decide +kernel
theorem ds_X11_isPlace : yX11_isPlace.cls ≠ "java/lang/invoke/MethodHandle" ∧ yX11_isPlace.cls ≠ "java/lang/invoke/VarHandle" ∧ (parseMethodDescriptor yX11_isPlace.desc).map (fun d => d.parameters.length) = some 2 := by decide +kernel
theorem ds_X11_isMan : yX11_isMan.cls ≠ "java/lang/invoke/MethodHandle" ∧ yX11_isMan.cls ≠ "java/lang/invoke/VarHandle" ∧ (parseMethodDescriptor yX11_isMan.desc).map (fun d => d.parameters.length) = some 1 := by decide +kernel
theorem ds_X11_isDead : yX11_isDead.cls ≠ "java/lang/invoke/MethodHandle" ∧ yX11_isDead.cls ≠ "java/lang/invoke/VarHandle" ∧ (parseMethodDescriptor yX11_isDead.desc).map (fun d => d.parameters.length) = some 1 := by decide +kernel
theorem ds_X11_cell : yX11_cell.cls ≠ "java/lang/invoke/MethodHandle" ∧ yX11_cell.cls ≠ "java/lang/invoke/VarHandle" ∧ (parseMethodDescriptor yX11_cell.desc).map (fun d => d.parameters.length) = some 2 := by decide +kernel
theorem ds_X11_lackOf : yX11_lackOf.cls ≠ "java/lang/invoke/MethodHandle" ∧ yX11_lackOf.cls ≠ "java/lang/invoke/VarHandle" ∧ (parseMethodDescriptor yX11_lackOf.desc).map (fun d => d.parameters.length) = some 2 := by decide +kernel
theorem ds_X11_isFalse : yX11_isFalse.cls ≠ "java/lang/invoke/MethodHandle" ∧ yX11_isFalse.cls ≠ "java/lang/invoke/VarHandle" ∧ (parseMethodDescriptor yX11_isFalse.desc).map (fun d => d.parameters.length) = some 2 := by decide +kernel
theorem ds_X11_good : yX11_good.cls ≠ "java/lang/invoke/MethodHandle" ∧ yX11_good.cls ≠ "java/lang/invoke/VarHandle" ∧ (parseMethodDescriptor yX11_good.desc).map (fun d => d.parameters.length) = some 3 := by decide +kernel
theorem ds_X11_crossed : yX11_crossed.cls ≠ "java/lang/invoke/MethodHandle" ∧ yX11_crossed.cls ≠ "java/lang/invoke/VarHandle" ∧ (parseMethodDescriptor yX11_crossed.desc).map (fun d => d.parameters.length) = some 2 := by decide +kernel
theorem ds_X11_areUnlike : yX11_areUnlike.cls ≠ "java/lang/invoke/MethodHandle" ∧ yX11_areUnlike.cls ≠ "java/lang/invoke/VarHandle" ∧ (parseMethodDescriptor yX11_areUnlike.desc).map (fun d => d.parameters.length) = some 2 := by decide +kernel
theorem ds_X11_doesMiss : yX11_doesMiss.cls ≠ "java/lang/invoke/MethodHandle" ∧ yX11_doesMiss.cls ≠ "java/lang/invoke/VarHandle" ∧ (parseMethodDescriptor yX11_doesMiss.desc).map (fun d => d.parameters.length) = some 2 := by decide +kernel
theorem ds_X11_missedBy : yX11_missedBy.cls ≠ "java/lang/invoke/MethodHandle" ∧ yX11_missedBy.cls ≠ "java/lang/invoke/VarHandle" ∧ (parseMethodDescriptor yX11_missedBy.desc).map (fun d => d.parameters.length) = some 1 := by decide +kernel
theorem ds_X11_missesOf : yX11_missesOf.cls ≠ "java/lang/invoke/MethodHandle" ∧ yX11_missesOf.cls ≠ "java/lang/invoke/VarHandle" ∧ (parseMethodDescriptor yX11_missesOf.desc).map (fun d => d.parameters.length) = some 1 := by decide +kernel
theorem ds_X11_man : yX11_man.cls ≠ "java/lang/invoke/MethodHandle" ∧ yX11_man.cls ≠ "java/lang/invoke/VarHandle" ∧ (parseMethodDescriptor yX11_man.desc).map (fun d => d.parameters.length) = some 2 := by decide +kernel
theorem ds_X11_apart : yX11_apart.cls ≠ "java/lang/invoke/MethodHandle" ∧ yX11_apart.cls ≠ "java/lang/invoke/VarHandle" ∧ (parseMethodDescriptor yX11_apart.desc).map (fun d => d.parameters.length) = some 2 := by decide +kernel
theorem ds_X11_menOn : yX11_menOn.cls ≠ "java/lang/invoke/MethodHandle" ∧ yX11_menOn.cls ≠ "java/lang/invoke/VarHandle" ∧ (parseMethodDescriptor yX11_menOn.desc).map (fun d => d.parameters.length) = some 1 := by decide +kernel
theorem ds_X11_now : yX11_now.cls ≠ "java/lang/invoke/MethodHandle" ∧ yX11_now.cls ≠ "java/lang/invoke/VarHandle" ∧ (parseMethodDescriptor yX11_now.desc).map (fun d => d.parameters.length) = some 1 := by decide +kernel
theorem ds_X11_goingSet : yX11_goingSet.cls ≠ "java/lang/invoke/MethodHandle" ∧ yX11_goingSet.cls ≠ "java/lang/invoke/VarHandle" ∧ (parseMethodDescriptor yX11_goingSet.desc).map (fun d => d.parameters.length) = some 0 := by decide +kernel
theorem ds_X11_goesOf : yX11_goesOf.cls ≠ "java/lang/invoke/MethodHandle" ∧ yX11_goesOf.cls ≠ "java/lang/invoke/VarHandle" ∧ (parseMethodDescriptor yX11_goesOf.desc).map (fun d => d.parameters.length) = some 1 := by decide +kernel
theorem ds_X11_eats : yX11_eats.cls ≠ "java/lang/invoke/MethodHandle" ∧ yX11_eats.cls ≠ "java/lang/invoke/VarHandle" ∧ (parseMethodDescriptor yX11_eats.desc).map (fun d => d.parameters.length) = some 1 := by decide +kernel
theorem ds_X11_day : yX11_day.cls ≠ "java/lang/invoke/MethodHandle" ∧ yX11_day.cls ≠ "java/lang/invoke/VarHandle" ∧ (parseMethodDescriptor yX11_day.desc).map (fun d => d.parameters.length) = some 0 := by decide +kernel
theorem ds_X11_goesOn : yX11_goesOn.cls ≠ "java/lang/invoke/MethodHandle" ∧ yX11_goesOn.cls ≠ "java/lang/invoke/VarHandle" ∧ (parseMethodDescriptor yX11_goesOn.desc).map (fun d => d.parameters.length) = some 1 := by decide +kernel
theorem ds_X11_whyHoard : yX11_whyHoard.cls ≠ "java/lang/invoke/MethodHandle" ∧ yX11_whyHoard.cls ≠ "java/lang/invoke/VarHandle" ∧ (parseMethodDescriptor yX11_whyHoard.desc).map (fun d => d.parameters.length) = some 2 := by decide +kernel
theorem ds_X11_whyBare : yX11_whyBare.cls ≠ "java/lang/invoke/MethodHandle" ∧ yX11_whyBare.cls ≠ "java/lang/invoke/VarHandle" ∧ (parseMethodDescriptor yX11_whyBare.desc).map (fun d => d.parameters.length) = some 2 := by decide +kernel
theorem ds_X11_hoards : yX11_hoards.cls ≠ "java/lang/invoke/MethodHandle" ∧ yX11_hoards.cls ≠ "java/lang/invoke/VarHandle" ∧ (parseMethodDescriptor yX11_hoards.desc).map (fun d => d.parameters.length) = some 2 := by decide +kernel
theorem ds_X11_keep : yX11_keep.cls ≠ "java/lang/invoke/MethodHandle" ∧ yX11_keep.cls ≠ "java/lang/invoke/VarHandle" ∧ (parseMethodDescriptor yX11_keep.desc).map (fun d => d.parameters.length) = some 0 := by decide +kernel
theorem ds_X11_hoard : yX11_hoard.cls ≠ "java/lang/invoke/MethodHandle" ∧ yX11_hoard.cls ≠ "java/lang/invoke/VarHandle" ∧ (parseMethodDescriptor yX11_hoard.desc).map (fun d => d.parameters.length) = some 3 := by decide +kernel
theorem ds_X11_bare : yX11_bare.cls ≠ "java/lang/invoke/MethodHandle" ∧ yX11_bare.cls ≠ "java/lang/invoke/VarHandle" ∧ (parseMethodDescriptor yX11_bare.desc).map (fun d => d.parameters.length) = some 3 := by decide +kernel
theorem ds_X11_waste : yX11_waste.cls ≠ "java/lang/invoke/MethodHandle" ∧ yX11_waste.cls ≠ "java/lang/invoke/VarHandle" ∧ (parseMethodDescriptor yX11_waste.desc).map (fun d => d.parameters.length) = some 3 := by decide +kernel
theorem ds_X11_die : yX11_die.cls ≠ "java/lang/invoke/MethodHandle" ∧ yX11_die.cls ≠ "java/lang/invoke/VarHandle" ∧ (parseMethodDescriptor yX11_die.desc).map (fun d => d.parameters.length) = some 1 := by decide +kernel
theorem ds_X11_days : yX11_days.cls ≠ "java/lang/invoke/MethodHandle" ∧ yX11_days.cls ≠ "java/lang/invoke/VarHandle" ∧ (parseMethodDescriptor yX11_days.desc).map (fun d => d.parameters.length) = some 1 := by decide +kernel
theorem ds_X11_undo : yX11_undo.cls ≠ "java/lang/invoke/MethodHandle" ∧ yX11_undo.cls ≠ "java/lang/invoke/VarHandle" ∧ (parseMethodDescriptor yX11_undo.desc).map (fun d => d.parameters.length) = some 0 := by decide +kernel
theorem ds_X11_tries : yX11_tries.cls ≠ "java/lang/invoke/MethodHandle" ∧ yX11_tries.cls ≠ "java/lang/invoke/VarHandle" ∧ (parseMethodDescriptor yX11_tries.desc).map (fun d => d.parameters.length) = some 0 := by decide +kernel
theorem ds_X11_back : yX11_back.cls ≠ "java/lang/invoke/MethodHandle" ∧ yX11_back.cls ≠ "java/lang/invoke/VarHandle" ∧ (parseMethodDescriptor yX11_back.desc).map (fun d => d.parameters.length) = some 0 := by decide +kernel
theorem ds_X11_lacks : yX11_lacks.cls ≠ "java/lang/invoke/MethodHandle" ∧ yX11_lacks.cls ≠ "java/lang/invoke/VarHandle" ∧ (parseMethodDescriptor yX11_lacks.desc).map (fun d => d.parameters.length) = some 1 := by decide +kernel
theorem ds_X11_falses : yX11_falses.cls ≠ "java/lang/invoke/MethodHandle" ∧ yX11_falses.cls ≠ "java/lang/invoke/VarHandle" ∧ (parseMethodDescriptor yX11_falses.desc).map (fun d => d.parameters.length) = some 1 := by decide +kernel
theorem ds_X11_going : yX11_going.cls ≠ "java/lang/invoke/MethodHandle" ∧ yX11_going.cls ≠ "java/lang/invoke/VarHandle" ∧ (parseMethodDescriptor yX11_going.desc).map (fun d => d.parameters.length) = some 0 := by decide +kernel
theorem ds_X11_goes : yX11_goes.cls ≠ "java/lang/invoke/MethodHandle" ∧ yX11_goes.cls ≠ "java/lang/invoke/VarHandle" ∧ (parseMethodDescriptor yX11_goes.desc).map (fun d => d.parameters.length) = some 1 := by decide +kernel
theorem ds_X11_crosses : yX11_crosses.cls ≠ "java/lang/invoke/MethodHandle" ∧ yX11_crosses.cls ≠ "java/lang/invoke/VarHandle" ∧ (parseMethodDescriptor yX11_crosses.desc).map (fun d => d.parameters.length) = some 1 := by decide +kernel
theorem ds_X11_comes : yX11_comes.cls ≠ "java/lang/invoke/MethodHandle" ∧ yX11_comes.cls ≠ "java/lang/invoke/VarHandle" ∧ (parseMethodDescriptor yX11_comes.desc).map (fun d => d.parameters.length) = some 2 := by decide +kernel
theorem ds_X11_without : yX11_without.cls ≠ "java/lang/invoke/MethodHandle" ∧ yX11_without.cls ≠ "java/lang/invoke/VarHandle" ∧ (parseMethodDescriptor yX11_without.desc).map (fun d => d.parameters.length) = some 4 := by decide +kernel
theorem ds_X11_meet : yX11_meet.cls ≠ "java/lang/invoke/MethodHandle" ∧ yX11_meet.cls ≠ "java/lang/invoke/VarHandle" ∧ (parseMethodDescriptor yX11_meet.desc).map (fun d => d.parameters.length) = some 2 := by decide +kernel
theorem ds_X11_loads : yX11_loads.cls ≠ "java/lang/invoke/MethodHandle" ∧ yX11_loads.cls ≠ "java/lang/invoke/VarHandle" ∧ (parseMethodDescriptor yX11_loads.desc).map (fun d => d.parameters.length) = some 1 := by decide +kernel
theorem ds_X11_which : yX11_which.cls ≠ "java/lang/invoke/MethodHandle" ∧ yX11_which.cls ≠ "java/lang/invoke/VarHandle" ∧ (parseMethodDescriptor yX11_which.desc).map (fun d => d.parameters.length) = some 0 := by decide +kernel
theorem ds_X11_lays : yX11_lays.cls ≠ "java/lang/invoke/MethodHandle" ∧ yX11_lays.cls ≠ "java/lang/invoke/VarHandle" ∧ (parseMethodDescriptor yX11_lays.desc).map (fun d => d.parameters.length) = some 1 := by decide +kernel
theorem ds_X11_areAlike : yX11_areAlike.cls ≠ "java/lang/invoke/MethodHandle" ∧ yX11_areAlike.cls ≠ "java/lang/invoke/VarHandle" ∧ (parseMethodDescriptor yX11_areAlike.desc).map (fun d => d.parameters.length) = some 2 := by decide +kernel
theorem ds_X11_settles : yX11_settles.cls ≠ "java/lang/invoke/MethodHandle" ∧ yX11_settles.cls ≠ "java/lang/invoke/VarHandle" ∧ (parseMethodDescriptor yX11_settles.desc).map (fun d => d.parameters.length) = some 0 := by decide +kernel
theorem ds_X11_hunger : yX11_hunger.cls ≠ "java/lang/invoke/MethodHandle" ∧ yX11_hunger.cls ≠ "java/lang/invoke/VarHandle" ∧ (parseMethodDescriptor yX11_hunger.desc).map (fun d => d.parameters.length) = some 3 := by decide +kernel
theorem ds_X11_prices : yX11_prices.cls ≠ "java/lang/invoke/MethodHandle" ∧ yX11_prices.cls ≠ "java/lang/invoke/VarHandle" ∧ (parseMethodDescriptor yX11_prices.desc).map (fun d => d.parameters.length) = some 0 := by decide +kernel
theorem ds_X11_price : yX11_price.cls ≠ "java/lang/invoke/MethodHandle" ∧ yX11_price.cls ≠ "java/lang/invoke/VarHandle" ∧ (parseMethodDescriptor yX11_price.desc).map (fun d => d.parameters.length) = some 2 := by decide +kernel
theorem ds_X11_dearest : yX11_dearest.cls ≠ "java/lang/invoke/MethodHandle" ∧ yX11_dearest.cls ≠ "java/lang/invoke/VarHandle" ∧ (parseMethodDescriptor yX11_dearest.desc).map (fun d => d.parameters.length) = some 0 := by decide +kernel
theorem ds_X11_rats : yX11_rats.cls ≠ "java/lang/invoke/MethodHandle" ∧ yX11_rats.cls ≠ "java/lang/invoke/VarHandle" ∧ (parseMethodDescriptor yX11_rats.desc).map (fun d => d.parameters.length) = some 0 := by decide +kernel
theorem ds_X11_hoarded : yX11_hoarded.cls ≠ "java/lang/invoke/MethodHandle" ∧ yX11_hoarded.cls ≠ "java/lang/invoke/VarHandle" ∧ (parseMethodDescriptor yX11_hoarded.desc).map (fun d => d.parameters.length) = some 1 := by decide +kernel
theorem ds_X11_draw : yX11_draw.cls ≠ "java/lang/invoke/MethodHandle" ∧ yX11_draw.cls ≠ "java/lang/invoke/VarHandle" ∧ (parseMethodDescriptor yX11_draw.desc).map (fun d => d.parameters.length) = some 1 := by decide +kernel
theorem ds_X11_drawsDay : yX11_drawsDay.cls ≠ "java/lang/invoke/MethodHandle" ∧ yX11_drawsDay.cls ≠ "java/lang/invoke/VarHandle" ∧ (parseMethodDescriptor yX11_drawsDay.desc).map (fun d => d.parameters.length) = some 0 := by decide +kernel
theorem ds_X11_draws : yX11_draws.cls ≠ "java/lang/invoke/MethodHandle" ∧ yX11_draws.cls ≠ "java/lang/invoke/VarHandle" ∧ (parseMethodDescriptor yX11_draws.desc).map (fun d => d.parameters.length) = some 2 := by decide +kernel
theorem ds_X11_drawn : yX11_drawn.cls ≠ "java/lang/invoke/MethodHandle" ∧ yX11_drawn.cls ≠ "java/lang/invoke/VarHandle" ∧ (parseMethodDescriptor yX11_drawn.desc).map (fun d => d.parameters.length) = some 2 := by decide +kernel
theorem ds_X11_odds : yX11_odds.cls ≠ "java/lang/invoke/MethodHandle" ∧ yX11_odds.cls ≠ "java/lang/invoke/VarHandle" ∧ (parseMethodDescriptor yX11_odds.desc).map (fun d => d.parameters.length) = some 3 := by decide +kernel
theorem ds_X11_logLine : yX11_logLine.cls ≠ "java/lang/invoke/MethodHandle" ∧ yX11_logLine.cls ≠ "java/lang/invoke/VarHandle" ∧ (parseMethodDescriptor yX11_logLine.desc).map (fun d => d.parameters.length) = some 0 := by decide +kernel
theorem ds_X11_does : yX11_does.cls ≠ "java/lang/invoke/MethodHandle" ∧ yX11_does.cls ≠ "java/lang/invoke/VarHandle" ∧ (parseMethodDescriptor yX11_does.desc).map (fun d => d.parameters.length) = some 4 := by decide +kernel
theorem ds_X11_log : yX11_log.cls ≠ "java/lang/invoke/MethodHandle" ∧ yX11_log.cls ≠ "java/lang/invoke/VarHandle" ∧ (parseMethodDescriptor yX11_log.desc).map (fun d => d.parameters.length) = some 1 := by decide +kernel
theorem ds_X11_logged : yX11_logged.cls ≠ "java/lang/invoke/MethodHandle" ∧ yX11_logged.cls ≠ "java/lang/invoke/VarHandle" ∧ (parseMethodDescriptor yX11_logged.desc).map (fun d => d.parameters.length) = some 1 := by decide +kernel
theorem ds_X11_code : yX11_code.cls ≠ "java/lang/invoke/MethodHandle" ∧ yX11_code.cls ≠ "java/lang/invoke/VarHandle" ∧ (parseMethodDescriptor yX11_code.desc).map (fun d => d.parameters.length) = some 3 := by decide +kernel
theorem ds_X11_joins : yX11_joins.cls ≠ "java/lang/invoke/MethodHandle" ∧ yX11_joins.cls ≠ "java/lang/invoke/VarHandle" ∧ (parseMethodDescriptor yX11_joins.desc).map (fun d => d.parameters.length) = some 1 := by decide +kernel
theorem ds_X11_nots : yX11_nots.cls ≠ "java/lang/invoke/MethodHandle" ∧ yX11_nots.cls ≠ "java/lang/invoke/VarHandle" ∧ (parseMethodDescriptor yX11_nots.desc).map (fun d => d.parameters.length) = some 0 := by decide +kernel
theorem ds_X11_leafOf : yX11_leafOf.cls ≠ "java/lang/invoke/MethodHandle" ∧ yX11_leafOf.cls ≠ "java/lang/invoke/VarHandle" ∧ (parseMethodDescriptor yX11_leafOf.desc).map (fun d => d.parameters.length) = some 0 := by decide +kernel
theorem ds_X11_operand : yX11_operand.cls ≠ "java/lang/invoke/MethodHandle" ∧ yX11_operand.cls ≠ "java/lang/invoke/VarHandle" ∧ (parseMethodDescriptor yX11_operand.desc).map (fun d => d.parameters.length) = some 0 := by decide +kernel
theorem ds_X11_behind : yX11_behind.cls ≠ "java/lang/invoke/MethodHandle" ∧ yX11_behind.cls ≠ "java/lang/invoke/VarHandle" ∧ (parseMethodDescriptor yX11_behind.desc).map (fun d => d.parameters.length) = some 0 := by decide +kernel
theorem ds_X11_sentence : yX11_sentence.cls ≠ "java/lang/invoke/MethodHandle" ∧ yX11_sentence.cls ≠ "java/lang/invoke/VarHandle" ∧ (parseMethodDescriptor yX11_sentence.desc).map (fun d => d.parameters.length) = some 0 := by decide +kernel
theorem ds_X11_isLeaf : yX11_isLeaf.cls ≠ "java/lang/invoke/MethodHandle" ∧ yX11_isLeaf.cls ≠ "java/lang/invoke/VarHandle" ∧ (parseMethodDescriptor yX11_isLeaf.desc).map (fun d => d.parameters.length) = some 4 := by decide +kernel
theorem ds_X11_isSaid : yX11_isSaid.cls ≠ "java/lang/invoke/MethodHandle" ∧ yX11_isSaid.cls ≠ "java/lang/invoke/VarHandle" ∧ (parseMethodDescriptor yX11_isSaid.desc).map (fun d => d.parameters.length) = some 1 := by decide +kernel
theorem ds_X11_said : yX11_said.cls ≠ "java/lang/invoke/MethodHandle" ∧ yX11_said.cls ≠ "java/lang/invoke/VarHandle" ∧ (parseMethodDescriptor yX11_said.desc).map (fun d => d.parameters.length) = some 1 := by decide +kernel
theorem ds_X11_image : yX11_image.cls ≠ "java/lang/invoke/MethodHandle" ∧ yX11_image.cls ≠ "java/lang/invoke/VarHandle" ∧ (parseMethodDescriptor yX11_image.desc).map (fun d => d.parameters.length) = some 1 := by decide +kernel
theorem ds_X11_restore : yX11_restore.cls ≠ "java/lang/invoke/MethodHandle" ∧ yX11_restore.cls ≠ "java/lang/invoke/VarHandle" ∧ (parseMethodDescriptor yX11_restore.desc).map (fun d => d.parameters.length) = some 1 := by decide +kernel
theorem ds_X11_count : yX11_count.cls ≠ "java/lang/invoke/MethodHandle" ∧ yX11_count.cls ≠ "java/lang/invoke/VarHandle" ∧ (parseMethodDescriptor yX11_count.desc).map (fun d => d.parameters.length) = some 1 := by decide +kernel
theorem ds_X10_man : yX10_man.cls ≠ "java/lang/invoke/MethodHandle" ∧ yX10_man.cls ≠ "java/lang/invoke/VarHandle" ∧ (parseMethodDescriptor yX10_man.desc).map (fun d => d.parameters.length) = some 2 := by decide +kernel
theorem ds_L_man : yL_man.cls ≠ "java/lang/invoke/MethodHandle" ∧ yL_man.cls ≠ "java/lang/invoke/VarHandle" ∧ (parseMethodDescriptor yL_man.desc).map (fun d => d.parameters.length) = some 4 := by decide +kernel
end
