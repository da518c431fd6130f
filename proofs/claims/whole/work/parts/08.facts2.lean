set_option maxRecDepth 100000 in
theorem tw_1 : (Cond.initialized "SeldomOps") ∈ xws := xws_in (List.mem_append_right _ (List.mem_of_getElem? (i := 1) rfl)) rfl
set_option maxRecDepth 100000 in
theorem tw_2 : (Cond.initialized "SeldomOps$Program") ∈ xws := xws_in (List.mem_append_right _ (List.mem_of_getElem? (i := 2) rfl)) rfl
set_option maxRecDepth 100000 in
theorem tw_3 : (Cond.initialized "SeldomOps$Judge") ∈ xws := xws_in (List.mem_append_right _ (List.mem_of_getElem? (i := 3) rfl)) rfl
set_option maxRecDepth 100000 in
theorem tw_4 : (Cond.initialized "SeldomOps$Shape") ∈ xws := xws_in (List.mem_append_right _ (List.mem_of_getElem? (i := 4) rfl)) rfl
set_option maxRecDepth 100000 in
theorem tw_5 : (Cond.initialized "SeldomOps$Words") ∈ xws := xws_in (List.mem_append_right _ (List.mem_of_getElem? (i := 5) rfl)) rfl
set_option maxRecDepth 100000 in
theorem tw_6 : (Cond.initialized "SeldomOps$Walker") ∈ xws := xws_in (List.mem_append_right _ (List.mem_of_getElem? (i := 6) rfl)) rfl
set_option maxRecDepth 100000 in
theorem tw_7 : (Cond.initialized "SeldomOps$Things") ∈ xws := xws_in (List.mem_append_right _ (List.mem_of_getElem? (i := 7) rfl)) rfl
set_option maxRecDepth 100000 in
theorem tw_8 : (Cond.initialized "SeldomOps$Call") ∈ xws := xws_in (List.mem_append_right _ (List.mem_of_getElem? (i := 8) rfl)) rfl
set_option maxRecDepth 100000 in
theorem tw_9 : (Cond.initialized "SeldomOpsModel") ∈ xws := xws_in (List.mem_append_right _ (List.mem_of_getElem? (i := 9) rfl)) rfl
set_option maxRecDepth 100000 in
theorem tw_10 : (Cond.initialized "SeldomOps$Method") ∈ xws := xws_in (List.mem_append_right _ (List.mem_of_getElem? (i := 10) rfl)) rfl
set_option maxRecDepth 100000 in
theorem tw_11 : (Cond.initialized "SeldomOps$Shapes") ∈ xws := xws_in (List.mem_append_right _ (List.mem_of_getElem? (i := 11) rfl)) rfl
set_option maxRecDepth 100000 in
theorem tw_12 : (Cond.initialized "SeldomOps$Table") ∈ xws := xws_in (List.mem_append_right _ (List.mem_of_getElem? (i := 12) rfl)) rfl
set_option maxRecDepth 100000 in
theorem tw_13 : (Cond.initialized "java/lang/System") ∈ xws := xws_in (List.mem_append_right _ (List.mem_of_getElem? (i := 13) rfl)) rfl
set_option maxRecDepth 100000 in
theorem tw_14 : (Cond.initialized "java/lang/Math") ∈ xws := xws_in (List.mem_append_right _ (List.mem_of_getElem? (i := 14) rfl)) rfl
set_option maxRecDepth 100000 in
theorem tw_15 : (Cond.initialized "SeldomOps$Numbers") ∈ xws := xws_in (List.mem_append_right _ (List.mem_of_getElem? (i := 15) rfl)) rfl
set_option maxRecDepth 100000 in
theorem tw_21 : (Cond.methodLink "SeldomOps" (1 : Nat) ({ cls := "java/lang/Object", name := "<init>", desc := "()V" } : MethodName)) ∈ xws := xws_in (List.mem_append_right _ (List.mem_of_getElem? (i := 21) rfl)) rfl
set_option maxRecDepth 100000 in
theorem tw_22 : (Cond.instanceMethod ({ cls := "java/lang/Object", name := "<init>", desc := "()V" } : MethodName)) ∈ xws := xws_in (List.mem_append_right _ (List.mem_of_getElem? (i := 22) rfl)) rfl
set_option maxRecDepth 100000 in
theorem tw_23 : (Cond.code ({ cls := "java/lang/Object", name := "<init>", desc := "()V" } : MethodName) object_method_1_code (1 : Nat) (Option.none : Option FieldType)) ∈ xws := xws_in (List.mem_append_right _ (List.mem_of_getElem? (i := 23) rfl)) rfl
set_option maxRecDepth 100000 in
theorem tw_24 : (Cond.classLink "SeldomOps" (7 : Nat) "SeldomOps$Program") ∈ xws := xws_in (List.mem_append_right _ (List.mem_of_getElem? (i := 24) rfl)) rfl
set_option maxRecDepth 100000 in
theorem tw_25 : (Cond.instantiable "SeldomOps$Program" (6 : Nat)) ∈ xws := xws_in (List.mem_append_right _ (List.mem_of_getElem? (i := 25) rfl)) rfl
set_option maxRecDepth 100000 in
theorem tw_27 : (Cond.instanceMethod ({ cls := "SeldomOps$Program", name := "<init>", desc := "()V" } : MethodName)) ∈ xws := xws_in (List.mem_append_right _ (List.mem_of_getElem? (i := 27) rfl)) rfl
set_option maxRecDepth 100000 in
theorem tw_28 : (Cond.code ({ cls := "SeldomOps$Program", name := "<init>", desc := "()V" } : MethodName) prog_6_method_1_code (1 : Nat) (Option.none : Option FieldType)) ∈ xws := xws_in (List.mem_append_right _ (List.mem_of_getElem? (i := 28) rfl)) rfl
set_option maxRecDepth 100000 in
theorem tw_29 : (Cond.methodLink "SeldomOps$Program" (3 : Nat) ({ cls := "java/lang/Object", name := "<init>", desc := "()V" } : MethodName)) ∈ xws := xws_in (List.mem_append_right _ (List.mem_of_getElem? (i := 29) rfl)) rfl
set_option maxRecDepth 100000 in
theorem tw_30 : (Cond.classLink "SeldomOps$Program" (9 : Nat) "SeldomOps$Method") ∈ xws := xws_in (List.mem_append_right _ (List.mem_of_getElem? (i := 30) rfl)) rfl
set_option maxRecDepth 100000 in
theorem tw_32 : (Cond.classLink "SeldomOps$Program" (28 : Nat) "SeldomOps$Table") ∈ xws := xws_in (List.mem_append_right _ (List.mem_of_getElem? (i := 32) rfl)) rfl
set_option maxRecDepth 100000 in
theorem tw_34 : (Cond.fieldLink "SeldomOps$Program" (11 : Nat) "SeldomOps$Program" "methods" "[LSeldomOps$Method;") ∈ xws := xws_in (List.mem_append_right _ (List.mem_of_getElem? (i := 34) rfl)) rfl
set_option maxRecDepth 100000 in
theorem tw_35 : (Cond.fieldLink "SeldomOps$Program" (17 : Nat) "SeldomOps$Program" "methodCount" "I") ∈ xws := xws_in (List.mem_append_right _ (List.mem_of_getElem? (i := 35) rfl)) rfl
set_option maxRecDepth 100000 in
theorem tw_36 : (Cond.fieldLink "SeldomOps" (44 : Nat) "SeldomOps$Program" "methodCount" "I") ∈ xws := xws_in (List.mem_append_right _ (List.mem_of_getElem? (i := 36) rfl)) rfl
set_option maxRecDepth 100000 in
theorem tw_37 : (Cond.fieldLink "SeldomOps$Judge" (168 : Nat) "SeldomOps$Program" "methodCount" "I") ∈ xws := xws_in (List.mem_append_right _ (List.mem_of_getElem? (i := 37) rfl)) rfl
set_option maxRecDepth 100000 in
theorem tw_38 : (Cond.fieldLink "SeldomOps$Program" (21 : Nat) "SeldomOps$Program" "constants" "[J") ∈ xws := xws_in (List.mem_append_right _ (List.mem_of_getElem? (i := 38) rfl)) rfl
set_option maxRecDepth 100000 in
theorem tw_39 : (Cond.fieldLink "SeldomOps$Program" (25 : Nat) "SeldomOps$Program" "constantCount" "I") ∈ xws := xws_in (List.mem_append_right _ (List.mem_of_getElem? (i := 39) rfl)) rfl
set_option maxRecDepth 100000 in
theorem tw_40 : (Cond.fieldLink "SeldomOps$Judge" (154 : Nat) "SeldomOps$Program" "constantCount" "I") ∈ xws := xws_in (List.mem_append_right _ (List.mem_of_getElem? (i := 40) rfl)) rfl
set_option maxRecDepth 100000 in
theorem tw_41 : (Cond.fieldLink "SeldomOps" (83 : Nat) "SeldomOps$Program" "constantCount" "I") ∈ xws := xws_in (List.mem_append_right _ (List.mem_of_getElem? (i := 41) rfl)) rfl
set_option maxRecDepth 100000 in
theorem tw_42 : (Cond.fieldLink "SeldomOps$Program" (30 : Nat) "SeldomOps$Program" "tables" "[LSeldomOps$Table;") ∈ xws := xws_in (List.mem_append_right _ (List.mem_of_getElem? (i := 42) rfl)) rfl
set_option maxRecDepth 100000 in
theorem tw_43 : (Cond.fieldLink "SeldomOps$Program" (34 : Nat) "SeldomOps$Program" "tableCount" "I") ∈ xws := xws_in (List.mem_append_right _ (List.mem_of_getElem? (i := 43) rfl)) rfl
set_option maxRecDepth 100000 in
theorem tw_44 : (Cond.fieldLink "SeldomOps$Judge" (162 : Nat) "SeldomOps$Program" "tableCount" "I") ∈ xws := xws_in (List.mem_append_right _ (List.mem_of_getElem? (i := 44) rfl)) rfl
set_option maxRecDepth 100000 in
theorem tw_45 : (Cond.fieldLink "SeldomOps" (90 : Nat) "SeldomOps$Program" "tableCount" "I") ∈ xws := xws_in (List.mem_append_right _ (List.mem_of_getElem? (i := 45) rfl)) rfl
set_option maxRecDepth 100000 in
theorem tw_59 : (Cond.arrayClass FieldType.long) ∈ xws := xws_in (List.mem_append_right _ (List.mem_of_getElem? (i := 59) rfl)) rfl
set_option maxRecDepth 100000 in
theorem tw_60 : (Cond.classLink "SeldomOps" (16 : Nat) "SeldomOps$Judge") ∈ xws := xws_in (List.mem_append_right _ (List.mem_of_getElem? (i := 60) rfl)) rfl
set_option maxRecDepth 100000 in
theorem tw_61 : (Cond.instantiable "SeldomOps$Judge" (6 : Nat)) ∈ xws := xws_in (List.mem_append_right _ (List.mem_of_getElem? (i := 61) rfl)) rfl
set_option maxRecDepth 100000 in
theorem tw_62 : (Cond.methodLink "SeldomOps" (18 : Nat) ({ cls := "SeldomOps$Judge", name := "<init>", desc := "(LSeldomOps$Program;)V" } : MethodName)) ∈ xws := xws_in (List.mem_append_right _ (List.mem_of_getElem? (i := 62) rfl)) rfl
set_option maxRecDepth 100000 in
theorem tw_63 : (Cond.instanceMethod ({ cls := "SeldomOps$Judge", name := "<init>", desc := "(LSeldomOps$Program;)V" } : MethodName)) ∈ xws := xws_in (List.mem_append_right _ (List.mem_of_getElem? (i := 63) rfl)) rfl
set_option maxRecDepth 100000 in
theorem tw_64 : (Cond.code ({ cls := "SeldomOps$Judge", name := "<init>", desc := "(LSeldomOps$Program;)V" } : MethodName) prog_3_method_1_code (2 : Nat) (Option.none : Option FieldType)) ∈ xws := xws_in (List.mem_append_right _ (List.mem_of_getElem? (i := 64) rfl)) rfl
set_option maxRecDepth 100000 in
theorem tw_65 : (Cond.methodLink "SeldomOps$Judge" (3 : Nat) ({ cls := "java/lang/Object", name := "<init>", desc := "()V" } : MethodName)) ∈ xws := xws_in (List.mem_append_right _ (List.mem_of_getElem? (i := 65) rfl)) rfl
set_option maxRecDepth 100000 in
theorem tw_66 : (Cond.classLink "SeldomOps$Judge" (9 : Nat) "SeldomOps$Shape") ∈ xws := xws_in (List.mem_append_right _ (List.mem_of_getElem? (i := 66) rfl)) rfl
set_option maxRecDepth 100000 in
theorem tw_67 : (Cond.instantiable "SeldomOps$Shape" (2 : Nat)) ∈ xws := xws_in (List.mem_append_right _ (List.mem_of_getElem? (i := 67) rfl)) rfl
set_option maxRecDepth 100000 in
theorem tw_69 : (Cond.instanceMethod ({ cls := "SeldomOps$Shape", name := "<init>", desc := "()V" } : MethodName)) ∈ xws := xws_in (List.mem_append_right _ (List.mem_of_getElem? (i := 69) rfl)) rfl
set_option maxRecDepth 100000 in
theorem tw_70 : (Cond.code ({ cls := "SeldomOps$Shape", name := "<init>", desc := "()V" } : MethodName) prog_7_method_1_code (1 : Nat) (Option.none : Option FieldType)) ∈ xws := xws_in (List.mem_append_right _ (List.mem_of_getElem? (i := 70) rfl)) rfl
set_option maxRecDepth 100000 in
theorem tw_71 : (Cond.methodLink "SeldomOps$Shape" (3 : Nat) ({ cls := "java/lang/Object", name := "<init>", desc := "()V" } : MethodName)) ∈ xws := xws_in (List.mem_append_right _ (List.mem_of_getElem? (i := 71) rfl)) rfl
set_option maxRecDepth 100000 in
theorem tw_72 : (Cond.classLink "SeldomOps$Shape" (9 : Nat) "SeldomOps$Words") ∈ xws := xws_in (List.mem_append_right _ (List.mem_of_getElem? (i := 72) rfl)) rfl
set_option maxRecDepth 100000 in
theorem tw_73 : (Cond.instantiable "SeldomOps$Words" (2 : Nat)) ∈ xws := xws_in (List.mem_append_right _ (List.mem_of_getElem? (i := 73) rfl)) rfl
set_option maxRecDepth 100000 in
theorem tw_75 : (Cond.instanceMethod ({ cls := "SeldomOps$Words", name := "<init>", desc := "()V" } : MethodName)) ∈ xws := xws_in (List.mem_append_right _ (List.mem_of_getElem? (i := 75) rfl)) rfl
set_option maxRecDepth 100000 in
theorem tw_76 : (Cond.code ({ cls := "SeldomOps$Words", name := "<init>", desc := "()V" } : MethodName) prog_12_method_1_code (1 : Nat) (Option.none : Option FieldType)) ∈ xws := xws_in (List.mem_append_right _ (List.mem_of_getElem? (i := 76) rfl)) rfl
set_option maxRecDepth 100000 in
theorem tw_77 : (Cond.methodLink "SeldomOps$Words" (3 : Nat) ({ cls := "java/lang/Object", name := "<init>", desc := "()V" } : MethodName)) ∈ xws := xws_in (List.mem_append_right _ (List.mem_of_getElem? (i := 77) rfl)) rfl
set_option maxRecDepth 100000 in
theorem tw_78 : (Cond.fieldLink "SeldomOps$Words" (9 : Nat) "SeldomOps$Words" "words" "[J") ∈ xws := xws_in (List.mem_append_right _ (List.mem_of_getElem? (i := 78) rfl)) rfl
set_option maxRecDepth 100000 in
theorem tw_79 : (Cond.fieldLink "SeldomOps$Shapes" (38 : Nat) "SeldomOps$Words" "words" "[J") ∈ xws := xws_in (List.mem_append_right _ (List.mem_of_getElem? (i := 79) rfl)) rfl
set_option maxRecDepth 100000 in
theorem tw_80 : (Cond.fieldLink "SeldomOps$Words" (15 : Nat) "SeldomOps$Words" "depth" "I") ∈ xws := xws_in (List.mem_append_right _ (List.mem_of_getElem? (i := 80) rfl)) rfl
set_option maxRecDepth 100000 in
theorem tw_81 : (Cond.fieldLink "SeldomOps$Shape" (37 : Nat) "SeldomOps$Words" "depth" "I") ∈ xws := xws_in (List.mem_append_right _ (List.mem_of_getElem? (i := 81) rfl)) rfl
set_option maxRecDepth 100000 in
theorem tw_82 : (Cond.fieldLink "SeldomOps$Walker" (130 : Nat) "SeldomOps$Words" "depth" "I") ∈ xws := xws_in (List.mem_append_right _ (List.mem_of_getElem? (i := 82) rfl)) rfl
set_option maxRecDepth 100000 in
theorem tw_83 : (Cond.fieldLink "SeldomOps$Shapes" (32 : Nat) "SeldomOps$Words" "depth" "I") ∈ xws := xws_in (List.mem_append_right _ (List.mem_of_getElem? (i := 83) rfl)) rfl
set_option maxRecDepth 100000 in
theorem tw_84 : (Cond.fieldLink "SeldomOps$Judge" (147 : Nat) "SeldomOps$Words" "depth" "I") ∈ xws := xws_in (List.mem_append_right _ (List.mem_of_getElem? (i := 84) rfl)) rfl
set_option maxRecDepth 100000 in
theorem tw_90 : (Cond.fieldLink "SeldomOps$Shape" (12 : Nat) "SeldomOps$Shape" "stack" "LSeldomOps$Words;") ∈ xws := xws_in (List.mem_append_right _ (List.mem_of_getElem? (i := 90) rfl)) rfl
set_option maxRecDepth 100000 in
theorem tw_91 : (Cond.fieldLink "SeldomOps$Judge" (76 : Nat) "SeldomOps$Shape" "stack" "LSeldomOps$Words;") ∈ xws := xws_in (List.mem_append_right _ (List.mem_of_getElem? (i := 91) rfl)) rfl
set_option maxRecDepth 100000 in
theorem tw_92 : (Cond.fieldLink "SeldomOps$Shapes" (26 : Nat) "SeldomOps$Shape" "stack" "LSeldomOps$Words;") ∈ xws := xws_in (List.mem_append_right _ (List.mem_of_getElem? (i := 92) rfl)) rfl
set_option maxRecDepth 100000 in
theorem tw_93 : (Cond.fieldLink "SeldomOps$Shape" (18 : Nat) "SeldomOps$Shape" "locals" "[J") ∈ xws := xws_in (List.mem_append_right _ (List.mem_of_getElem? (i := 93) rfl)) rfl
set_option maxRecDepth 100000 in
theorem tw_94 : (Cond.fieldLink "SeldomOps$Judge" (85 : Nat) "SeldomOps$Shape" "locals" "[J") ∈ xws := xws_in (List.mem_append_right _ (List.mem_of_getElem? (i := 94) rfl)) rfl
set_option maxRecDepth 100000 in
theorem tw_95 : (Cond.fieldLink "SeldomOps$Shapes" (47 : Nat) "SeldomOps$Shape" "locals" "[J") ∈ xws := xws_in (List.mem_append_right _ (List.mem_of_getElem? (i := 95) rfl)) rfl
set_option maxRecDepth 100000 in
theorem tw_101 : (Cond.fieldLink "SeldomOps$Judge" (31 : Nat) "SeldomOps$Judge" "program" "LSeldomOps$Program;") ∈ xws := xws_in (List.mem_append_right _ (List.mem_of_getElem? (i := 101) rfl)) rfl
set_option maxRecDepth 100000 in
theorem tw_102 : (Cond.fieldLink "SeldomOps$Judge" (12 : Nat) "SeldomOps$Judge" "behind" "LSeldomOps$Shape;") ∈ xws := xws_in (List.mem_append_right _ (List.mem_of_getElem? (i := 102) rfl)) rfl
set_option maxRecDepth 100000 in
theorem tw_103 : (Cond.fieldLink "SeldomOps$Judge" (18 : Nat) "SeldomOps$Judge" "caught" "LSeldomOps$Shape;") ∈ xws := xws_in (List.mem_append_right _ (List.mem_of_getElem? (i := 103) rfl)) rfl
set_option maxRecDepth 100000 in
theorem tw_104 : (Cond.fieldLink "SeldomOps$Judge" (21 : Nat) "SeldomOps$Judge" "faultMethod" "I") ∈ xws := xws_in (List.mem_append_right _ (List.mem_of_getElem? (i := 104) rfl)) rfl
set_option maxRecDepth 100000 in
theorem tw_105 : (Cond.fieldLink "SeldomOps" (118 : Nat) "SeldomOps$Judge" "faultMethod" "I") ∈ xws := xws_in (List.mem_append_right _ (List.mem_of_getElem? (i := 105) rfl)) rfl
set_option maxRecDepth 100000 in
theorem tw_106 : (Cond.fieldLink "SeldomOps$Judge" (25 : Nat) "SeldomOps$Judge" "faultOperation" "I") ∈ xws := xws_in (List.mem_append_right _ (List.mem_of_getElem? (i := 106) rfl)) rfl
set_option maxRecDepth 100000 in
theorem tw_107 : (Cond.fieldLink "SeldomOps" (121 : Nat) "SeldomOps$Judge" "faultOperation" "I") ∈ xws := xws_in (List.mem_append_right _ (List.mem_of_getElem? (i := 107) rfl)) rfl
set_option maxRecDepth 100000 in
theorem tw_108 : (Cond.fieldLink "SeldomOps$Judge" (28 : Nat) "SeldomOps$Judge" "place" "I") ∈ xws := xws_in (List.mem_append_right _ (List.mem_of_getElem? (i := 108) rfl)) rfl
set_option maxRecDepth 100000 in
theorem tw_122 : (Cond.classLink "SeldomOps" (25 : Nat) "SeldomOps$Walker") ∈ xws := xws_in (List.mem_append_right _ (List.mem_of_getElem? (i := 122) rfl)) rfl
set_option maxRecDepth 100000 in
theorem tw_123 : (Cond.instantiable "SeldomOps$Walker" (15 : Nat)) ∈ xws := xws_in (List.mem_append_right _ (List.mem_of_getElem? (i := 123) rfl)) rfl
set_option maxRecDepth 100000 in
theorem tw_124 : (Cond.methodLink "SeldomOps" (27 : Nat) ({ cls := "SeldomOps$Walker", name := "<init>", desc := "(LSeldomOps$Program;)V" } : MethodName)) ∈ xws := xws_in (List.mem_append_right _ (List.mem_of_getElem? (i := 124) rfl)) rfl
set_option maxRecDepth 100000 in
theorem tw_125 : (Cond.instanceMethod ({ cls := "SeldomOps$Walker", name := "<init>", desc := "(LSeldomOps$Program;)V" } : MethodName)) ∈ xws := xws_in (List.mem_append_right _ (List.mem_of_getElem? (i := 125) rfl)) rfl
set_option maxRecDepth 100000 in
theorem tw_126 : (Cond.code ({ cls := "SeldomOps$Walker", name := "<init>", desc := "(LSeldomOps$Program;)V" } : MethodName) prog_11_method_1_code (3 : Nat) (Option.none : Option FieldType)) ∈ xws := xws_in (List.mem_append_right _ (List.mem_of_getElem? (i := 126) rfl)) rfl
set_option maxRecDepth 100000 in
theorem tw_127 : (Cond.methodLink "SeldomOps$Walker" (3 : Nat) ({ cls := "java/lang/Object", name := "<init>", desc := "()V" } : MethodName)) ∈ xws := xws_in (List.mem_append_right _ (List.mem_of_getElem? (i := 127) rfl)) rfl
set_option maxRecDepth 100000 in
theorem tw_128 : (Cond.classLink "SeldomOps$Walker" (9 : Nat) "SeldomOps$Things") ∈ xws := xws_in (List.mem_append_right _ (List.mem_of_getElem? (i := 128) rfl)) rfl
set_option maxRecDepth 100000 in
theorem tw_129 : (Cond.instantiable "SeldomOps$Things" (5 : Nat)) ∈ xws := xws_in (List.mem_append_right _ (List.mem_of_getElem? (i := 129) rfl)) rfl
set_option maxRecDepth 100000 in
theorem tw_131 : (Cond.instanceMethod ({ cls := "SeldomOps$Things", name := "<init>", desc := "()V" } : MethodName)) ∈ xws := xws_in (List.mem_append_right _ (List.mem_of_getElem? (i := 131) rfl)) rfl
set_option maxRecDepth 100000 in
theorem tw_132 : (Cond.code ({ cls := "SeldomOps$Things", name := "<init>", desc := "()V" } : MethodName) prog_10_method_1_code (1 : Nat) (Option.none : Option FieldType)) ∈ xws := xws_in (List.mem_append_right _ (List.mem_of_getElem? (i := 132) rfl)) rfl
set_option maxRecDepth 100000 in
theorem tw_133 : (Cond.methodLink "SeldomOps$Things" (3 : Nat) ({ cls := "java/lang/Object", name := "<init>", desc := "()V" } : MethodName)) ∈ xws := xws_in (List.mem_append_right _ (List.mem_of_getElem? (i := 133) rfl)) rfl
set_option maxRecDepth 100000 in
theorem tw_134 : (Cond.fieldLink "SeldomOps$Things" (9 : Nat) "SeldomOps$Things" "types" "[I") ∈ xws := xws_in (List.mem_append_right _ (List.mem_of_getElem? (i := 134) rfl)) rfl
set_option maxRecDepth 100000 in
theorem tw_135 : (Cond.fieldLink "SeldomOps$Things" (15 : Nat) "SeldomOps$Things" "sizes" "[I") ∈ xws := xws_in (List.mem_append_right _ (List.mem_of_getElem? (i := 135) rfl)) rfl
set_option maxRecDepth 100000 in
theorem tw_136 : (Cond.fieldLink "SeldomOps$Walker" (298 : Nat) "SeldomOps$Things" "sizes" "[I") ∈ xws := xws_in (List.mem_append_right _ (List.mem_of_getElem? (i := 136) rfl)) rfl
set_option maxRecDepth 100000 in
theorem tw_137 : (Cond.fieldLink "SeldomOps$Things" (18 : Nat) "SeldomOps$Things" "held" "[I") ∈ xws := xws_in (List.mem_append_right _ (List.mem_of_getElem? (i := 137) rfl)) rfl
set_option maxRecDepth 100000 in
theorem tw_138 : (Cond.fieldLink "SeldomOps$Walker" (313 : Nat) "SeldomOps$Things" "held" "[I") ∈ xws := xws_in (List.mem_append_right _ (List.mem_of_getElem? (i := 138) rfl)) rfl
set_option maxRecDepth 100000 in
theorem tw_139 : (Cond.fieldLink "SeldomOps$Things" (21 : Nat) "SeldomOps$Things" "cells" "[J") ∈ xws := xws_in (List.mem_append_right _ (List.mem_of_getElem? (i := 139) rfl)) rfl
set_option maxRecDepth 100000 in
theorem tw_140 : (Cond.fieldLink "SeldomOps$Things" (25 : Nat) "SeldomOps$Things" "made" "I") ∈ xws := xws_in (List.mem_append_right _ (List.mem_of_getElem? (i := 140) rfl)) rfl
set_option maxRecDepth 100000 in
theorem tw_141 : (Cond.fieldLink "SeldomOps$Walker" (145 : Nat) "SeldomOps$Things" "made" "I") ∈ xws := xws_in (List.mem_append_right _ (List.mem_of_getElem? (i := 141) rfl)) rfl
set_option maxRecDepth 100000 in
theorem tw_153 : (Cond.arrayClass FieldType.int) ∈ xws := xws_in (List.mem_append_right _ (List.mem_of_getElem? (i := 153) rfl)) rfl
set_option maxRecDepth 100000 in
theorem tw_154 : (Cond.classLink "SeldomOps$Walker" (18 : Nat) "SeldomOps$Call") ∈ xws := xws_in (List.mem_append_right _ (List.mem_of_getElem? (i := 154) rfl)) rfl
set_option maxRecDepth 100000 in
theorem tw_156 : (Cond.instantiable "SeldomOps$Call" (8 : Nat)) ∈ xws := xws_in (List.mem_append_right _ (List.mem_of_getElem? (i := 156) rfl)) rfl
set_option maxRecDepth 100000 in
theorem tw_158 : (Cond.instanceMethod ({ cls := "SeldomOps$Call", name := "<init>", desc := "()V" } : MethodName)) ∈ xws := xws_in (List.mem_append_right _ (List.mem_of_getElem? (i := 158) rfl)) rfl
set_option maxRecDepth 100000 in
theorem tw_159 : (Cond.code ({ cls := "SeldomOps$Call", name := "<init>", desc := "()V" } : MethodName) prog_2_method_1_code (1 : Nat) (Option.none : Option FieldType)) ∈ xws := xws_in (List.mem_append_right _ (List.mem_of_getElem? (i := 159) rfl)) rfl
set_option maxRecDepth 100000 in
theorem tw_160 : (Cond.methodLink "SeldomOps$Call" (3 : Nat) ({ cls := "java/lang/Object", name := "<init>", desc := "()V" } : MethodName)) ∈ xws := xws_in (List.mem_append_right _ (List.mem_of_getElem? (i := 160) rfl)) rfl
set_option maxRecDepth 100000 in
theorem tw_161 : (Cond.classLink "SeldomOps$Call" (25 : Nat) "SeldomOps$Words") ∈ xws := xws_in (List.mem_append_right _ (List.mem_of_getElem? (i := 161) rfl)) rfl
set_option maxRecDepth 100000 in
theorem tw_163 : (Cond.fieldLink "SeldomOps$Call" (9 : Nat) "SeldomOps$Call" "number" "I") ∈ xws := xws_in (List.mem_append_right _ (List.mem_of_getElem? (i := 163) rfl)) rfl
set_option maxRecDepth 100000 in
theorem tw_164 : (Cond.fieldLink "SeldomOps$Walker" (119 : Nat) "SeldomOps$Call" "number" "I") ∈ xws := xws_in (List.mem_append_right _ (List.mem_of_getElem? (i := 164) rfl)) rfl
set_option maxRecDepth 100000 in
theorem tw_165 : (Cond.fieldLink "SeldomOps$Call" (15 : Nat) "SeldomOps$Call" "method" "LSeldomOps$Method;") ∈ xws := xws_in (List.mem_append_right _ (List.mem_of_getElem? (i := 165) rfl)) rfl
set_option maxRecDepth 100000 in
theorem tw_166 : (Cond.fieldLink "SeldomOps$Walker" (102 : Nat) "SeldomOps$Call" "method" "LSeldomOps$Method;") ∈ xws := xws_in (List.mem_append_right _ (List.mem_of_getElem? (i := 166) rfl)) rfl
set_option maxRecDepth 100000 in
theorem tw_167 : (Cond.fieldLink "SeldomOps$Call" (19 : Nat) "SeldomOps$Call" "at" "I") ∈ xws := xws_in (List.mem_append_right _ (List.mem_of_getElem? (i := 167) rfl)) rfl
set_option maxRecDepth 100000 in
theorem tw_168 : (Cond.fieldLink "SeldomOps$Walker" (96 : Nat) "SeldomOps$Call" "at" "I") ∈ xws := xws_in (List.mem_append_right _ (List.mem_of_getElem? (i := 168) rfl)) rfl
set_option maxRecDepth 100000 in
theorem tw_169 : (Cond.fieldLink "SeldomOps$Call" (22 : Nat) "SeldomOps$Call" "next" "I") ∈ xws := xws_in (List.mem_append_right _ (List.mem_of_getElem? (i := 169) rfl)) rfl
set_option maxRecDepth 100000 in
theorem tw_170 : (Cond.fieldLink "SeldomOps$Walker" (99 : Nat) "SeldomOps$Call" "next" "I") ∈ xws := xws_in (List.mem_append_right _ (List.mem_of_getElem? (i := 170) rfl)) rfl
set_option maxRecDepth 100000 in
theorem tw_171 : (Cond.fieldLink "SeldomOps$Call" (28 : Nat) "SeldomOps$Call" "stack" "LSeldomOps$Words;") ∈ xws := xws_in (List.mem_append_right _ (List.mem_of_getElem? (i := 171) rfl)) rfl
set_option maxRecDepth 100000 in
theorem tw_172 : (Cond.fieldLink "SeldomOps$Walker" (126 : Nat) "SeldomOps$Call" "stack" "LSeldomOps$Words;") ∈ xws := xws_in (List.mem_append_right _ (List.mem_of_getElem? (i := 172) rfl)) rfl
set_option maxRecDepth 100000 in
theorem tw_173 : (Cond.fieldLink "SeldomOps$Call" (32 : Nat) "SeldomOps$Call" "locals" "[J") ∈ xws := xws_in (List.mem_append_right _ (List.mem_of_getElem? (i := 173) rfl)) rfl
set_option maxRecDepth 100000 in
theorem tw_174 : (Cond.fieldLink "SeldomOps$Call" (36 : Nat) "SeldomOps$Call" "held" "[I") ∈ xws := xws_in (List.mem_append_right _ (List.mem_of_getElem? (i := 174) rfl)) rfl
set_option maxRecDepth 100000 in
theorem tw_175 : (Cond.fieldLink "SeldomOps$Walker" (307 : Nat) "SeldomOps$Call" "held" "[I") ∈ xws := xws_in (List.mem_append_right _ (List.mem_of_getElem? (i := 175) rfl)) rfl
set_option maxRecDepth 100000 in
theorem tw_176 : (Cond.fieldLink "SeldomOps$Call" (40 : Nat) "SeldomOps$Call" "holds" "I") ∈ xws := xws_in (List.mem_append_right _ (List.mem_of_getElem? (i := 176) rfl)) rfl
set_option maxRecDepth 100000 in
theorem tw_177 : (Cond.fieldLink "SeldomOps$Walker" (310 : Nat) "SeldomOps$Call" "holds" "I") ∈ xws := xws_in (List.mem_append_right _ (List.mem_of_getElem? (i := 177) rfl)) rfl
set_option maxRecDepth 100000 in
theorem tw_195 : (Cond.fieldLink "SeldomOps$Walker" (64 : Nat) "SeldomOps$Walker" "program" "LSeldomOps$Program;") ∈ xws := xws_in (List.mem_append_right _ (List.mem_of_getElem? (i := 195) rfl)) rfl
set_option maxRecDepth 100000 in
theorem tw_196 : (Cond.fieldLink "SeldomOps$Walker" (12 : Nat) "SeldomOps$Walker" "things" "LSeldomOps$Things;") ∈ xws := xws_in (List.mem_append_right _ (List.mem_of_getElem? (i := 196) rfl)) rfl
set_option maxRecDepth 100000 in
theorem tw_197 : (Cond.fieldLink "SeldomOps" (161 : Nat) "SeldomOps$Walker" "things" "LSeldomOps$Things;") ∈ xws := xws_in (List.mem_append_right _ (List.mem_of_getElem? (i := 197) rfl)) rfl
set_option maxRecDepth 100000 in
theorem tw_198 : (Cond.fieldLink "SeldomOps$Walker" (20 : Nat) "SeldomOps$Walker" "calls" "[LSeldomOps$Call;") ∈ xws := xws_in (List.mem_append_right _ (List.mem_of_getElem? (i := 198) rfl)) rfl
set_option maxRecDepth 100000 in
theorem tw_199 : (Cond.fieldLink "SeldomOps$Walker" (24 : Nat) "SeldomOps$Walker" "lengths" "[I") ∈ xws := xws_in (List.mem_append_right _ (List.mem_of_getElem? (i := 199) rfl)) rfl
set_option maxRecDepth 100000 in
theorem tw_200 : (Cond.fieldLink "SeldomOps$Walker" (28 : Nat) "SeldomOps$Walker" "underWay" "I") ∈ xws := xws_in (List.mem_append_right _ (List.mem_of_getElem? (i := 200) rfl)) rfl
set_option maxRecDepth 100000 in
theorem tw_201 : (Cond.fieldLink "SeldomOps$Walker" (32 : Nat) "SeldomOps$Walker" "resultBits" "J") ∈ xws := xws_in (List.mem_append_right _ (List.mem_of_getElem? (i := 201) rfl)) rfl
set_option maxRecDepth 100000 in
theorem tw_202 : (Cond.fieldLink "SeldomOps" (154 : Nat) "SeldomOps$Walker" "resultBits" "J") ∈ xws := xws_in (List.mem_append_right _ (List.mem_of_getElem? (i := 202) rfl)) rfl
set_option maxRecDepth 100000 in
theorem tw_203 : (Cond.fieldLink "SeldomOps$Walker" (36 : Nat) "SeldomOps$Walker" "walked" "Z") ∈ xws := xws_in (List.mem_append_right _ (List.mem_of_getElem? (i := 203) rfl)) rfl
set_option maxRecDepth 100000 in
theorem tw_204 : (Cond.fieldLink "SeldomOps$Walker" (40 : Nat) "SeldomOps$Walker" "failure" "I") ∈ xws := xws_in (List.mem_append_right _ (List.mem_of_getElem? (i := 204) rfl)) rfl
set_option maxRecDepth 100000 in
theorem tw_205 : (Cond.fieldLink "SeldomOps$Walker" (43 : Nat) "SeldomOps$Walker" "failedOperation" "I") ∈ xws := xws_in (List.mem_append_right _ (List.mem_of_getElem? (i := 205) rfl)) rfl
set_option maxRecDepth 100000 in
theorem tw_206 : (Cond.fieldLink "SeldomOps$Walker" (46 : Nat) "SeldomOps$Walker" "failedMethod" "I") ∈ xws := xws_in (List.mem_append_right _ (List.mem_of_getElem? (i := 206) rfl)) rfl
set_option maxRecDepth 100000 in
theorem tw_207 : (Cond.fieldLink "SeldomOps$Walker" (49 : Nat) "SeldomOps$Walker" "stepsMade" "I") ∈ xws := xws_in (List.mem_append_right _ (List.mem_of_getElem? (i := 207) rfl)) rfl
set_option maxRecDepth 100000 in
theorem tw_208 : (Cond.fieldLink "SeldomOps$Walker" (52 : Nat) "SeldomOps$Walker" "callsMade" "I") ∈ xws := xws_in (List.mem_append_right _ (List.mem_of_getElem? (i := 208) rfl)) rfl
set_option maxRecDepth 100000 in
theorem tw_209 : (Cond.fieldLink "SeldomOps$Walker" (55 : Nat) "SeldomOps$Walker" "mostWords" "I") ∈ xws := xws_in (List.mem_append_right _ (List.mem_of_getElem? (i := 209) rfl)) rfl
set_option maxRecDepth 100000 in
theorem tw_210 : (Cond.fieldLink "SeldomOps$Walker" (58 : Nat) "SeldomOps$Walker" "failuresCaught" "I") ∈ xws := xws_in (List.mem_append_right _ (List.mem_of_getElem? (i := 210) rfl)) rfl
set_option maxRecDepth 100000 in
theorem tw_211 : (Cond.fieldLink "SeldomOps$Walker" (61 : Nat) "SeldomOps$Walker" "failingThing" "I") ∈ xws := xws_in (List.mem_append_right _ (List.mem_of_getElem? (i := 211) rfl)) rfl
set_option maxRecDepth 100000 in
theorem tw_243 : (Cond.fieldLink "SeldomOps" (10 : Nat) "SeldomOps" "program" "LSeldomOps$Program;") ∈ xws := xws_in (List.mem_append_right _ (List.mem_of_getElem? (i := 243) rfl)) rfl
set_option maxRecDepth 100000 in
theorem tw_244 : (Cond.fieldLink "SeldomOps" (21 : Nat) "SeldomOps" "judging" "LSeldomOps$Judge;") ∈ xws := xws_in (List.mem_append_right _ (List.mem_of_getElem? (i := 244) rfl)) rfl
set_option maxRecDepth 100000 in
theorem tw_245 : (Cond.fieldLink "SeldomOps" (28 : Nat) "SeldomOps" "walker" "LSeldomOps$Walker;") ∈ xws := xws_in (List.mem_append_right _ (List.mem_of_getElem? (i := 245) rfl)) rfl
set_option maxRecDepth 100000 in
theorem tw_246 : (Cond.fieldLink "SeldomOps" (32 : Nat) "SeldomOps" "given" "[J") ∈ xws := xws_in (List.mem_append_right _ (List.mem_of_getElem? (i := 246) rfl)) rfl
set_option maxRecDepth 100000 in
theorem tw_247 : (Cond.fieldLink "SeldomOps" (36 : Nat) "SeldomOps" "givenCount" "I") ∈ xws := xws_in (List.mem_append_right _ (List.mem_of_getElem? (i := 247) rfl)) rfl
set_option maxRecDepth 100000 in
theorem tw_263 : (Cond.methodLink "SeldomOps" (40 : Nat) ({ cls := "SeldomOps", name := "within", desc := "(II)Z" } : MethodName)) ∈ xws := xws_in (List.mem_append_right _ (List.mem_of_getElem? (i := 263) rfl)) rfl
set_option maxRecDepth 100000 in
theorem tw_264 : (Cond.static ({ cls := "SeldomOps", name := "within", desc := "(II)Z" } : MethodName)) ∈ xws := xws_in (List.mem_append_right _ (List.mem_of_getElem? (i := 264) rfl)) rfl
set_option maxRecDepth 100000 in
theorem tw_265 : (Cond.code ({ cls := "SeldomOps", name := "within", desc := "(II)Z" } : MethodName) prog_1_method_21_code (2 : Nat) (Option.some FieldType.boolean)) ∈ xws := xws_in (List.mem_append_right _ (List.mem_of_getElem? (i := 265) rfl)) rfl
set_option maxRecDepth 100000 in
theorem tw_266 : (Cond.methodLink "SeldomOps" (47 : Nat) ({ cls := "SeldomOps$Program", name := "forgetJudgements", desc := "()V" } : MethodName)) ∈ xws := xws_in (List.mem_append_right _ (List.mem_of_getElem? (i := 266) rfl)) rfl
set_option maxRecDepth 100000 in
theorem tw_267 : (Cond.instanceMethod ({ cls := "SeldomOps$Program", name := "forgetJudgements", desc := "()V" } : MethodName)) ∈ xws := xws_in (List.mem_append_right _ (List.mem_of_getElem? (i := 267) rfl)) rfl
set_option maxRecDepth 100000 in
theorem tw_268 : (Cond.selects "SeldomOps$Program" ({ cls := "SeldomOps$Program", name := "forgetJudgements", desc := "()V" } : MethodName) ({ cls := "SeldomOps$Program", name := "forgetJudgements", desc := "()V" } : MethodName)) ∈ xws := xws_in (List.mem_append_right _ (List.mem_of_getElem? (i := 268) rfl)) rfl
set_option maxRecDepth 100000 in
theorem tw_269 : (Cond.code ({ cls := "SeldomOps$Program", name := "forgetJudgements", desc := "()V" } : MethodName) prog_6_method_8_code (2 : Nat) (Option.none : Option FieldType)) ∈ xws := xws_in (List.mem_append_right _ (List.mem_of_getElem? (i := 269) rfl)) rfl
set_option maxRecDepth 100000 in
theorem tw_270 : (Cond.methodLink "SeldomOps" (50 : Nat) ({ cls := "SeldomOps$Program", name := "addMethod", desc := "(I)I" } : MethodName)) ∈ xws := xws_in (List.mem_append_right _ (List.mem_of_getElem? (i := 270) rfl)) rfl
set_option maxRecDepth 100000 in
theorem tw_271 : (Cond.instanceMethod ({ cls := "SeldomOps$Program", name := "addMethod", desc := "(I)I" } : MethodName)) ∈ xws := xws_in (List.mem_append_right _ (List.mem_of_getElem? (i := 271) rfl)) rfl
set_option maxRecDepth 100000 in
theorem tw_272 : (Cond.selects "SeldomOps$Program" ({ cls := "SeldomOps$Program", name := "addMethod", desc := "(I)I" } : MethodName) ({ cls := "SeldomOps$Program", name := "addMethod", desc := "(I)I" } : MethodName)) ∈ xws := xws_in (List.mem_append_right _ (List.mem_of_getElem? (i := 272) rfl)) rfl
set_option maxRecDepth 100000 in
theorem tw_273 : (Cond.code ({ cls := "SeldomOps$Program", name := "addMethod", desc := "(I)I" } : MethodName) prog_6_method_5_code (3 : Nat) (Option.some FieldType.int)) ∈ xws := xws_in (List.mem_append_right _ (List.mem_of_getElem? (i := 273) rfl)) rfl
set_option maxRecDepth 100000 in
theorem tw_274 : (Cond.instantiable "SeldomOps$Method" (16 : Nat)) ∈ xws := xws_in (List.mem_append_right _ (List.mem_of_getElem? (i := 274) rfl)) rfl
set_option maxRecDepth 100000 in
theorem tw_275 : (Cond.methodLink "SeldomOps$Program" (41 : Nat) ({ cls := "SeldomOps$Method", name := "<init>", desc := "(I)V" } : MethodName)) ∈ xws := xws_in (List.mem_append_right _ (List.mem_of_getElem? (i := 275) rfl)) rfl
set_option maxRecDepth 100000 in
theorem tw_276 : (Cond.instanceMethod ({ cls := "SeldomOps$Method", name := "<init>", desc := "(I)V" } : MethodName)) ∈ xws := xws_in (List.mem_append_right _ (List.mem_of_getElem? (i := 276) rfl)) rfl
set_option maxRecDepth 100000 in
theorem tw_277 : (Cond.code ({ cls := "SeldomOps$Method", name := "<init>", desc := "(I)V" } : MethodName) prog_4_method_1_code (2 : Nat) (Option.none : Option FieldType)) ∈ xws := xws_in (List.mem_append_right _ (List.mem_of_getElem? (i := 277) rfl)) rfl
set_option maxRecDepth 100000 in
theorem tw_278 : (Cond.methodLink "SeldomOps$Method" (3 : Nat) ({ cls := "java/lang/Object", name := "<init>", desc := "()V" } : MethodName)) ∈ xws := xws_in (List.mem_append_right _ (List.mem_of_getElem? (i := 278) rfl)) rfl
set_option maxRecDepth 100000 in
theorem tw_279 : (Cond.classLink "SeldomOps$Method" (49 : Nat) "SeldomOps$Shapes") ∈ xws := xws_in (List.mem_append_right _ (List.mem_of_getElem? (i := 279) rfl)) rfl
set_option maxRecDepth 100000 in
theorem tw_280 : (Cond.instantiable "SeldomOps$Shapes" (4 : Nat)) ∈ xws := xws_in (List.mem_append_right _ (List.mem_of_getElem? (i := 280) rfl)) rfl
set_option maxRecDepth 100000 in
theorem tw_282 : (Cond.instanceMethod ({ cls := "SeldomOps$Shapes", name := "<init>", desc := "()V" } : MethodName)) ∈ xws := xws_in (List.mem_append_right _ (List.mem_of_getElem? (i := 282) rfl)) rfl
set_option maxRecDepth 100000 in
theorem tw_283 : (Cond.code ({ cls := "SeldomOps$Shapes", name := "<init>", desc := "()V" } : MethodName) prog_8_method_1_code (1 : Nat) (Option.none : Option FieldType)) ∈ xws := xws_in (List.mem_append_right _ (List.mem_of_getElem? (i := 283) rfl)) rfl
set_option maxRecDepth 100000 in
theorem tw_284 : (Cond.methodLink "SeldomOps$Shapes" (3 : Nat) ({ cls := "java/lang/Object", name := "<init>", desc := "()V" } : MethodName)) ∈ xws := xws_in (List.mem_append_right _ (List.mem_of_getElem? (i := 284) rfl)) rfl
set_option maxRecDepth 100000 in
theorem tw_285 : (Cond.fieldLink "SeldomOps$Shapes" (9 : Nat) "SeldomOps$Shapes" "depths" "[I") ∈ xws := xws_in (List.mem_append_right _ (List.mem_of_getElem? (i := 285) rfl)) rfl
set_option maxRecDepth 100000 in
theorem tw_286 : (Cond.fieldLink "SeldomOps$Shapes" (15 : Nat) "SeldomOps$Shapes" "stacks" "[J") ∈ xws := xws_in (List.mem_append_right _ (List.mem_of_getElem? (i := 286) rfl)) rfl
set_option maxRecDepth 100000 in
theorem tw_287 : (Cond.fieldLink "SeldomOps$Shapes" (19 : Nat) "SeldomOps$Shapes" "locals" "[J") ∈ xws := xws_in (List.mem_append_right _ (List.mem_of_getElem? (i := 287) rfl)) rfl
set_option maxRecDepth 100000 in
theorem tw_288 : (Cond.fieldLink "SeldomOps$Shapes" (22 : Nat) "SeldomOps$Shapes" "due" "[Z") ∈ xws := xws_in (List.mem_append_right _ (List.mem_of_getElem? (i := 288) rfl)) rfl
set_option maxRecDepth 100000 in
theorem tw_289 : (Cond.fieldLink "SeldomOps$Judge" (52 : Nat) "SeldomOps$Shapes" "due" "[Z") ∈ xws := xws_in (List.mem_append_right _ (List.mem_of_getElem? (i := 289) rfl)) rfl
set_option maxRecDepth 100000 in
theorem tw_299 : (Cond.arrayClass FieldType.boolean) ∈ xws := xws_in (List.mem_append_right _ (List.mem_of_getElem? (i := 299) rfl)) rfl
set_option maxRecDepth 100000 in
theorem tw_300 : (Cond.fieldLink "SeldomOps$Method" (63 : Nat) "SeldomOps$Method" "result" "I") ∈ xws := xws_in (List.mem_append_right _ (List.mem_of_getElem? (i := 300) rfl)) rfl
set_option maxRecDepth 100000 in
theorem tw_301 : (Cond.fieldLink "SeldomOps$Judge" (140 : Nat) "SeldomOps$Method" "result" "I") ∈ xws := xws_in (List.mem_append_right _ (List.mem_of_getElem? (i := 301) rfl)) rfl
set_option maxRecDepth 100000 in
theorem tw_302 : (Cond.fieldLink "SeldomOps$Walker" (314 : Nat) "SeldomOps$Method" "result" "I") ∈ xws := xws_in (List.mem_append_right _ (List.mem_of_getElem? (i := 302) rfl)) rfl
set_option maxRecDepth 100000 in
theorem tw_303 : (Cond.fieldLink "SeldomOps$Method" (9 : Nat) "SeldomOps$Method" "kinds" "[I") ∈ xws := xws_in (List.mem_append_right _ (List.mem_of_getElem? (i := 303) rfl)) rfl
set_option maxRecDepth 100000 in
theorem tw_304 : (Cond.fieldLink "SeldomOps$Walker" (81 : Nat) "SeldomOps$Method" "kinds" "[I") ∈ xws := xws_in (List.mem_append_right _ (List.mem_of_getElem? (i := 304) rfl)) rfl
set_option maxRecDepth 100000 in
theorem tw_305 : (Cond.fieldLink "SeldomOps$Judge" (94 : Nat) "SeldomOps$Method" "kinds" "[I") ∈ xws := xws_in (List.mem_append_right _ (List.mem_of_getElem? (i := 305) rfl)) rfl
set_option maxRecDepth 100000 in
theorem tw_306 : (Cond.fieldLink "SeldomOps$Method" (15 : Nat) "SeldomOps$Method" "arguments" "I") ∈ xws := xws_in (List.mem_append_right _ (List.mem_of_getElem? (i := 306) rfl)) rfl
set_option maxRecDepth 100000 in
theorem tw_307 : (Cond.fieldLink "SeldomOps$Walker" (76 : Nat) "SeldomOps$Method" "arguments" "I") ∈ xws := xws_in (List.mem_append_right _ (List.mem_of_getElem? (i := 307) rfl)) rfl
set_option maxRecDepth 100000 in
theorem tw_308 : (Cond.fieldLink "SeldomOps$Judge" (91 : Nat) "SeldomOps$Method" "arguments" "I") ∈ xws := xws_in (List.mem_append_right _ (List.mem_of_getElem? (i := 308) rfl)) rfl
set_option maxRecDepth 100000 in
theorem tw_309 : (Cond.fieldLink "SeldomOps" (144 : Nat) "SeldomOps$Method" "arguments" "I") ∈ xws := xws_in (List.mem_append_right _ (List.mem_of_getElem? (i := 309) rfl)) rfl
set_option maxRecDepth 100000 in
theorem tw_310 : (Cond.fieldLink "SeldomOps$Method" (19 : Nat) "SeldomOps$Method" "argumentWords" "I") ∈ xws := xws_in (List.mem_append_right _ (List.mem_of_getElem? (i := 310) rfl)) rfl
set_option maxRecDepth 100000 in
theorem tw_311 : (Cond.fieldLink "SeldomOps" (58 : Nat) "SeldomOps$Method" "argumentWords" "I") ∈ xws := xws_in (List.mem_append_right _ (List.mem_of_getElem? (i := 311) rfl)) rfl
set_option maxRecDepth 100000 in
theorem tw_312 : (Cond.fieldLink "SeldomOps$Walker" (321 : Nat) "SeldomOps$Method" "argumentWords" "I") ∈ xws := xws_in (List.mem_append_right _ (List.mem_of_getElem? (i := 312) rfl)) rfl
set_option maxRecDepth 100000 in
theorem tw_313 : (Cond.fieldLink "SeldomOps$Method" (22 : Nat) "SeldomOps$Method" "codes" "[I") ∈ xws := xws_in (List.mem_append_right _ (List.mem_of_getElem? (i := 313) rfl)) rfl
set_option maxRecDepth 100000 in
theorem tw_314 : (Cond.fieldLink "SeldomOps$Walker" (106 : Nat) "SeldomOps$Method" "codes" "[I") ∈ xws := xws_in (List.mem_append_right _ (List.mem_of_getElem? (i := 314) rfl)) rfl
set_option maxRecDepth 100000 in
theorem tw_315 : (Cond.fieldLink "SeldomOps$Judge" (113 : Nat) "SeldomOps$Method" "codes" "[I") ∈ xws := xws_in (List.mem_append_right _ (List.mem_of_getElem? (i := 315) rfl)) rfl
set_option maxRecDepth 100000 in
theorem tw_316 : (Cond.fieldLink "SeldomOps$Method" (25 : Nat) "SeldomOps$Method" "firsts" "[I") ∈ xws := xws_in (List.mem_append_right _ (List.mem_of_getElem? (i := 316) rfl)) rfl
set_option maxRecDepth 100000 in
theorem tw_317 : (Cond.fieldLink "SeldomOps$Walker" (109 : Nat) "SeldomOps$Method" "firsts" "[I") ∈ xws := xws_in (List.mem_append_right _ (List.mem_of_getElem? (i := 317) rfl)) rfl
set_option maxRecDepth 100000 in
theorem tw_318 : (Cond.fieldLink "SeldomOps$Judge" (116 : Nat) "SeldomOps$Method" "firsts" "[I") ∈ xws := xws_in (List.mem_append_right _ (List.mem_of_getElem? (i := 318) rfl)) rfl
set_option maxRecDepth 100000 in
theorem tw_319 : (Cond.fieldLink "SeldomOps$Method" (28 : Nat) "SeldomOps$Method" "seconds" "[I") ∈ xws := xws_in (List.mem_append_right _ (List.mem_of_getElem? (i := 319) rfl)) rfl
set_option maxRecDepth 100000 in
theorem tw_320 : (Cond.fieldLink "SeldomOps$Walker" (112 : Nat) "SeldomOps$Method" "seconds" "[I") ∈ xws := xws_in (List.mem_append_right _ (List.mem_of_getElem? (i := 320) rfl)) rfl
set_option maxRecDepth 100000 in
theorem tw_321 : (Cond.fieldLink "SeldomOps$Judge" (119 : Nat) "SeldomOps$Method" "seconds" "[I") ∈ xws := xws_in (List.mem_append_right _ (List.mem_of_getElem? (i := 321) rfl)) rfl
set_option maxRecDepth 100000 in
theorem tw_322 : (Cond.fieldLink "SeldomOps$Method" (31 : Nat) "SeldomOps$Method" "operations" "I") ∈ xws := xws_in (List.mem_append_right _ (List.mem_of_getElem? (i := 322) rfl)) rfl
set_option maxRecDepth 100000 in
theorem tw_323 : (Cond.fieldLink "SeldomOps$Judge" (45 : Nat) "SeldomOps$Method" "operations" "I") ∈ xws := xws_in (List.mem_append_right _ (List.mem_of_getElem? (i := 323) rfl)) rfl
set_option maxRecDepth 100000 in
theorem tw_324 : (Cond.fieldLink "SeldomOps" (69 : Nat) "SeldomOps$Method" "operations" "I") ∈ xws := xws_in (List.mem_append_right _ (List.mem_of_getElem? (i := 324) rfl)) rfl
set_option maxRecDepth 100000 in
theorem tw_325 : (Cond.fieldLink "SeldomOps$Method" (34 : Nat) "SeldomOps$Method" "froms" "[I") ∈ xws := xws_in (List.mem_append_right _ (List.mem_of_getElem? (i := 325) rfl)) rfl
set_option maxRecDepth 100000 in
theorem tw_326 : (Cond.fieldLink "SeldomOps$Method" (37 : Nat) "SeldomOps$Method" "tos" "[I") ∈ xws := xws_in (List.mem_append_right _ (List.mem_of_getElem? (i := 326) rfl)) rfl
set_option maxRecDepth 100000 in
theorem tw_327 : (Cond.fieldLink "SeldomOps$Method" (40 : Nat) "SeldomOps$Method" "targets" "[I") ∈ xws := xws_in (List.mem_append_right _ (List.mem_of_getElem? (i := 327) rfl)) rfl
set_option maxRecDepth 100000 in
theorem tw_328 : (Cond.fieldLink "SeldomOps$Judge" (186 : Nat) "SeldomOps$Method" "targets" "[I") ∈ xws := xws_in (List.mem_append_right _ (List.mem_of_getElem? (i := 328) rfl)) rfl
set_option maxRecDepth 100000 in
theorem tw_329 : (Cond.fieldLink "SeldomOps$Method" (43 : Nat) "SeldomOps$Method" "numbers" "[I") ∈ xws := xws_in (List.mem_append_right _ (List.mem_of_getElem? (i := 329) rfl)) rfl
set_option maxRecDepth 100000 in
theorem tw_330 : (Cond.fieldLink "SeldomOps$Method" (46 : Nat) "SeldomOps$Method" "handlers" "I") ∈ xws := xws_in (List.mem_append_right _ (List.mem_of_getElem? (i := 330) rfl)) rfl
set_option maxRecDepth 100000 in
theorem tw_331 : (Cond.fieldLink "SeldomOps" (76 : Nat) "SeldomOps$Method" "handlers" "I") ∈ xws := xws_in (List.mem_append_right _ (List.mem_of_getElem? (i := 331) rfl)) rfl
set_option maxRecDepth 100000 in
theorem tw_332 : (Cond.fieldLink "SeldomOps$Judge" (180 : Nat) "SeldomOps$Method" "handlers" "I") ∈ xws := xws_in (List.mem_append_right _ (List.mem_of_getElem? (i := 332) rfl)) rfl
set_option maxRecDepth 100000 in
theorem tw_333 : (Cond.fieldLink "SeldomOps$Method" (52 : Nat) "SeldomOps$Method" "shapes" "LSeldomOps$Shapes;") ∈ xws := xws_in (List.mem_append_right _ (List.mem_of_getElem? (i := 333) rfl)) rfl
set_option maxRecDepth 100000 in
theorem tw_334 : (Cond.fieldLink "SeldomOps$Judge" (48 : Nat) "SeldomOps$Method" "shapes" "LSeldomOps$Shapes;") ∈ xws := xws_in (List.mem_append_right _ (List.mem_of_getElem? (i := 334) rfl)) rfl
set_option maxRecDepth 100000 in
theorem tw_335 : (Cond.fieldLink "SeldomOps" (131 : Nat) "SeldomOps$Method" "shapes" "LSeldomOps$Shapes;") ∈ xws := xws_in (List.mem_append_right _ (List.mem_of_getElem? (i := 335) rfl)) rfl
set_option maxRecDepth 100000 in
theorem tw_336 : (Cond.fieldLink "SeldomOps$Method" (56 : Nat) "SeldomOps$Method" "judged" "Z") ∈ xws := xws_in (List.mem_append_right _ (List.mem_of_getElem? (i := 336) rfl)) rfl
set_option maxRecDepth 100000 in
theorem tw_337 : (Cond.fieldLink "SeldomOps$Judge" (35 : Nat) "SeldomOps$Method" "judged" "Z") ∈ xws := xws_in (List.mem_append_right _ (List.mem_of_getElem? (i := 337) rfl)) rfl
set_option maxRecDepth 100000 in
theorem tw_338 : (Cond.fieldLink "SeldomOps$Program" (47 : Nat) "SeldomOps$Method" "judged" "Z") ∈ xws := xws_in (List.mem_append_right _ (List.mem_of_getElem? (i := 338) rfl)) rfl
set_option maxRecDepth 100000 in
theorem tw_339 : (Cond.fieldLink "SeldomOps" (128 : Nat) "SeldomOps$Method" "judged" "Z") ∈ xws := xws_in (List.mem_append_right _ (List.mem_of_getElem? (i := 339) rfl)) rfl
set_option maxRecDepth 100000 in
theorem tw_340 : (Cond.fieldLink "SeldomOps$Method" (60 : Nat) "SeldomOps$Method" "faultless" "Z") ∈ xws := xws_in (List.mem_append_right _ (List.mem_of_getElem? (i := 340) rfl)) rfl
set_option maxRecDepth 100000 in
theorem tw_341 : (Cond.fieldLink "SeldomOps$Judge" (73 : Nat) "SeldomOps$Method" "faultless" "Z") ∈ xws := xws_in (List.mem_append_right _ (List.mem_of_getElem? (i := 341) rfl)) rfl
set_option maxRecDepth 100000 in
theorem tw_342 : (Cond.fieldLink "SeldomOps$Program" (51 : Nat) "SeldomOps$Method" "faultless" "Z") ∈ xws := xws_in (List.mem_append_right _ (List.mem_of_getElem? (i := 342) rfl)) rfl
set_option maxRecDepth 100000 in
theorem tw_343 : (Cond.fieldLink "SeldomOps" (124 : Nat) "SeldomOps$Method" "faultless" "Z") ∈ xws := xws_in (List.mem_append_right _ (List.mem_of_getElem? (i := 343) rfl)) rfl
set_option maxRecDepth 100000 in
theorem tw_381 : (Cond.methodLink "SeldomOps" (54 : Nat) ({ cls := "SeldomOps$Program", name := "findMethod", desc := "(I)LSeldomOps$Method;" } : MethodName)) ∈ xws := xws_in (List.mem_append_right _ (List.mem_of_getElem? (i := 381) rfl)) rfl
set_option maxRecDepth 100000 in
theorem tw_382 : (Cond.instanceMethod ({ cls := "SeldomOps$Program", name := "findMethod", desc := "(I)LSeldomOps$Method;" } : MethodName)) ∈ xws := xws_in (List.mem_append_right _ (List.mem_of_getElem? (i := 382) rfl)) rfl
set_option maxRecDepth 100000 in
theorem tw_383 : (Cond.selects "SeldomOps$Program" ({ cls := "SeldomOps$Program", name := "findMethod", desc := "(I)LSeldomOps$Method;" } : MethodName) ({ cls := "SeldomOps$Program", name := "findMethod", desc := "(I)LSeldomOps$Method;" } : MethodName)) ∈ xws := xws_in (List.mem_append_right _ (List.mem_of_getElem? (i := 383) rfl)) rfl
set_option maxRecDepth 100000 in
theorem tw_384 : (Cond.code ({ cls := "SeldomOps$Program", name := "findMethod", desc := "(I)LSeldomOps$Method;" } : MethodName) prog_6_method_2_code (2 : Nat) (Option.some (FieldType.object "SeldomOps$Method"))) ∈ xws := xws_in (List.mem_append_right _ (List.mem_of_getElem? (i := 384) rfl)) rfl
set_option maxRecDepth 100000 in
theorem tw_386 : (Cond.methodLink "SeldomOps" (63 : Nat) ({ cls := "SeldomOps", name := "width", desc := "(I)I" } : MethodName)) ∈ xws := xws_in (List.mem_append_right _ (List.mem_of_getElem? (i := 386) rfl)) rfl
set_option maxRecDepth 100000 in
theorem tw_387 : (Cond.static ({ cls := "SeldomOps", name := "width", desc := "(I)I" } : MethodName)) ∈ xws := xws_in (List.mem_append_right _ (List.mem_of_getElem? (i := 387) rfl)) rfl
set_option maxRecDepth 100000 in
theorem tw_388 : (Cond.code ({ cls := "SeldomOps", name := "width", desc := "(I)I" } : MethodName) prog_1_method_23_code (1 : Nat) (Option.some FieldType.int)) ∈ xws := xws_in (List.mem_append_right _ (List.mem_of_getElem? (i := 388) rfl)) rfl
set_option maxRecDepth 100000 in
theorem tw_389 : (Cond.methodLink "SeldomOps" (179 : Nat) ({ cls := "SeldomOps", name := "isWide", desc := "(I)Z" } : MethodName)) ∈ xws := xws_in (List.mem_append_right _ (List.mem_of_getElem? (i := 389) rfl)) rfl
set_option maxRecDepth 100000 in
theorem tw_390 : (Cond.static ({ cls := "SeldomOps", name := "isWide", desc := "(I)Z" } : MethodName)) ∈ xws := xws_in (List.mem_append_right _ (List.mem_of_getElem? (i := 390) rfl)) rfl
set_option maxRecDepth 100000 in
theorem tw_391 : (Cond.code ({ cls := "SeldomOps", name := "isWide", desc := "(I)Z" } : MethodName) prog_1_method_22_code (1 : Nat) (Option.some FieldType.boolean)) ∈ xws := xws_in (List.mem_append_right _ (List.mem_of_getElem? (i := 391) rfl)) rfl
set_option maxRecDepth 100000 in
theorem tw_392 : (Cond.methodLink "SeldomOps" (66 : Nat) ({ cls := "SeldomOps$Method", name := "addArgument", desc := "(I)I" } : MethodName)) ∈ xws := xws_in (List.mem_append_right _ (List.mem_of_getElem? (i := 392) rfl)) rfl
set_option maxRecDepth 100000 in
theorem tw_393 : (Cond.instanceMethod ({ cls := "SeldomOps$Method", name := "addArgument", desc := "(I)I" } : MethodName)) ∈ xws := xws_in (List.mem_append_right _ (List.mem_of_getElem? (i := 393) rfl)) rfl
set_option maxRecDepth 100000 in
theorem tw_394 : (Cond.selects "SeldomOps$Method" ({ cls := "SeldomOps$Method", name := "addArgument", desc := "(I)I" } : MethodName) ({ cls := "SeldomOps$Method", name := "addArgument", desc := "(I)I" } : MethodName)) ∈ xws := xws_in (List.mem_append_right _ (List.mem_of_getElem? (i := 394) rfl)) rfl
set_option maxRecDepth 100000 in
theorem tw_395 : (Cond.code ({ cls := "SeldomOps$Method", name := "addArgument", desc := "(I)I" } : MethodName) prog_4_method_2_code (2 : Nat) (Option.some FieldType.int)) ∈ xws := xws_in (List.mem_append_right _ (List.mem_of_getElem? (i := 395) rfl)) rfl
set_option maxRecDepth 100000 in
theorem tw_401 : (Cond.methodLink "SeldomOps" (72 : Nat) ({ cls := "SeldomOps$Method", name := "setOperation", desc := "(IIII)V" } : MethodName)) ∈ xws := xws_in (List.mem_append_right _ (List.mem_of_getElem? (i := 401) rfl)) rfl
set_option maxRecDepth 100000 in
theorem tw_402 : (Cond.instanceMethod ({ cls := "SeldomOps$Method", name := "setOperation", desc := "(IIII)V" } : MethodName)) ∈ xws := xws_in (List.mem_append_right _ (List.mem_of_getElem? (i := 402) rfl)) rfl
set_option maxRecDepth 100000 in
theorem tw_403 : (Cond.selects "SeldomOps$Method" ({ cls := "SeldomOps$Method", name := "setOperation", desc := "(IIII)V" } : MethodName) ({ cls := "SeldomOps$Method", name := "setOperation", desc := "(IIII)V" } : MethodName)) ∈ xws := xws_in (List.mem_append_right _ (List.mem_of_getElem? (i := 403) rfl)) rfl
set_option maxRecDepth 100000 in
theorem tw_404 : (Cond.code ({ cls := "SeldomOps$Method", name := "setOperation", desc := "(IIII)V" } : MethodName) prog_4_method_3_code (5 : Nat) (Option.none : Option FieldType)) ∈ xws := xws_in (List.mem_append_right _ (List.mem_of_getElem? (i := 404) rfl)) rfl
set_option maxRecDepth 100000 in
theorem tw_413 : (Cond.methodLink "SeldomOps" (79 : Nat) ({ cls := "SeldomOps$Method", name := "addHandler", desc := "(IIII)I" } : MethodName)) ∈ xws := xws_in (List.mem_append_right _ (List.mem_of_getElem? (i := 413) rfl)) rfl
set_option maxRecDepth 100000 in
theorem tw_414 : (Cond.instanceMethod ({ cls := "SeldomOps$Method", name := "addHandler", desc := "(IIII)I" } : MethodName)) ∈ xws := xws_in (List.mem_append_right _ (List.mem_of_getElem? (i := 414) rfl)) rfl
set_option maxRecDepth 100000 in
theorem tw_415 : (Cond.selects "SeldomOps$Method" ({ cls := "SeldomOps$Method", name := "addHandler", desc := "(IIII)I" } : MethodName) ({ cls := "SeldomOps$Method", name := "addHandler", desc := "(IIII)I" } : MethodName)) ∈ xws := xws_in (List.mem_append_right _ (List.mem_of_getElem? (i := 415) rfl)) rfl
set_option maxRecDepth 100000 in
theorem tw_416 : (Cond.code ({ cls := "SeldomOps$Method", name := "addHandler", desc := "(IIII)I" } : MethodName) prog_4_method_4_code (5 : Nat) (Option.some FieldType.int)) ∈ xws := xws_in (List.mem_append_right _ (List.mem_of_getElem? (i := 416) rfl)) rfl
set_option maxRecDepth 100000 in
theorem tw_421 : (Cond.methodLink "SeldomOps" (86 : Nat) ({ cls := "SeldomOps$Program", name := "addConstant", desc := "(J)I" } : MethodName)) ∈ xws := xws_in (List.mem_append_right _ (List.mem_of_getElem? (i := 421) rfl)) rfl
set_option maxRecDepth 100000 in
theorem tw_422 : (Cond.instanceMethod ({ cls := "SeldomOps$Program", name := "addConstant", desc := "(J)I" } : MethodName)) ∈ xws := xws_in (List.mem_append_right _ (List.mem_of_getElem? (i := 422) rfl)) rfl
set_option maxRecDepth 100000 in
theorem tw_423 : (Cond.selects "SeldomOps$Program" ({ cls := "SeldomOps$Program", name := "addConstant", desc := "(J)I" } : MethodName) ({ cls := "SeldomOps$Program", name := "addConstant", desc := "(J)I" } : MethodName)) ∈ xws := xws_in (List.mem_append_right _ (List.mem_of_getElem? (i := 423) rfl)) rfl
set_option maxRecDepth 100000 in
theorem tw_424 : (Cond.code ({ cls := "SeldomOps$Program", name := "addConstant", desc := "(J)I" } : MethodName) prog_6_method_6_code (4 : Nat) (Option.some FieldType.int)) ∈ xws := xws_in (List.mem_append_right _ (List.mem_of_getElem? (i := 424) rfl)) rfl
set_option maxRecDepth 100000 in
theorem tw_429 : (Cond.methodLink "SeldomOps" (93 : Nat) ({ cls := "SeldomOps$Program", name := "addTable", desc := "(ZII)I" } : MethodName)) ∈ xws := xws_in (List.mem_append_right _ (List.mem_of_getElem? (i := 429) rfl)) rfl
set_option maxRecDepth 100000 in
theorem tw_430 : (Cond.instanceMethod ({ cls := "SeldomOps$Program", name := "addTable", desc := "(ZII)I" } : MethodName)) ∈ xws := xws_in (List.mem_append_right _ (List.mem_of_getElem? (i := 430) rfl)) rfl
set_option maxRecDepth 100000 in
theorem tw_431 : (Cond.selects "SeldomOps$Program" ({ cls := "SeldomOps$Program", name := "addTable", desc := "(ZII)I" } : MethodName) ({ cls := "SeldomOps$Program", name := "addTable", desc := "(ZII)I" } : MethodName)) ∈ xws := xws_in (List.mem_append_right _ (List.mem_of_getElem? (i := 431) rfl)) rfl
set_option maxRecDepth 100000 in
theorem tw_432 : (Cond.code ({ cls := "SeldomOps$Program", name := "addTable", desc := "(ZII)I" } : MethodName) prog_6_method_7_code (5 : Nat) (Option.some FieldType.int)) ∈ xws := xws_in (List.mem_append_right _ (List.mem_of_getElem? (i := 432) rfl)) rfl
set_option maxRecDepth 100000 in
theorem tw_433 : (Cond.instantiable "SeldomOps$Table" (6 : Nat)) ∈ xws := xws_in (List.mem_append_right _ (List.mem_of_getElem? (i := 433) rfl)) rfl
set_option maxRecDepth 100000 in
theorem tw_434 : (Cond.methodLink "SeldomOps$Program" (44 : Nat) ({ cls := "SeldomOps$Table", name := "<init>", desc := "(ZII)V" } : MethodName)) ∈ xws := xws_in (List.mem_append_right _ (List.mem_of_getElem? (i := 434) rfl)) rfl
set_option maxRecDepth 100000 in
theorem tw_435 : (Cond.instanceMethod ({ cls := "SeldomOps$Table", name := "<init>", desc := "(ZII)V" } : MethodName)) ∈ xws := xws_in (List.mem_append_right _ (List.mem_of_getElem? (i := 435) rfl)) rfl
set_option maxRecDepth 100000 in
theorem tw_436 : (Cond.code ({ cls := "SeldomOps$Table", name := "<init>", desc := "(ZII)V" } : MethodName) prog_9_method_1_code (4 : Nat) (Option.none : Option FieldType)) ∈ xws := xws_in (List.mem_append_right _ (List.mem_of_getElem? (i := 436) rfl)) rfl
set_option maxRecDepth 100000 in
theorem tw_437 : (Cond.methodLink "SeldomOps$Table" (3 : Nat) ({ cls := "java/lang/Object", name := "<init>", desc := "()V" } : MethodName)) ∈ xws := xws_in (List.mem_append_right _ (List.mem_of_getElem? (i := 437) rfl)) rfl
set_option maxRecDepth 100000 in
theorem tw_438 : (Cond.fieldLink "SeldomOps$Table" (22 : Nat) "SeldomOps$Table" "sparse" "Z") ∈ xws := xws_in (List.mem_append_right _ (List.mem_of_getElem? (i := 438) rfl)) rfl
set_option maxRecDepth 100000 in
theorem tw_439 : (Cond.fieldLink "SeldomOps$Table" (26 : Nat) "SeldomOps$Table" "low" "I") ∈ xws := xws_in (List.mem_append_right _ (List.mem_of_getElem? (i := 439) rfl)) rfl
set_option maxRecDepth 100000 in
theorem tw_440 : (Cond.fieldLink "SeldomOps$Table" (29 : Nat) "SeldomOps$Table" "other" "I") ∈ xws := xws_in (List.mem_append_right _ (List.mem_of_getElem? (i := 440) rfl)) rfl
set_option maxRecDepth 100000 in
theorem tw_441 : (Cond.fieldLink "SeldomOps$Judge" (238 : Nat) "SeldomOps$Table" "other" "I") ∈ xws := xws_in (List.mem_append_right _ (List.mem_of_getElem? (i := 441) rfl)) rfl
set_option maxRecDepth 100000 in
theorem tw_442 : (Cond.fieldLink "SeldomOps$Table" (9 : Nat) "SeldomOps$Table" "keys" "[I") ∈ xws := xws_in (List.mem_append_right _ (List.mem_of_getElem? (i := 442) rfl)) rfl
set_option maxRecDepth 100000 in
theorem tw_443 : (Cond.fieldLink "SeldomOps$Table" (15 : Nat) "SeldomOps$Table" "targets" "[I") ∈ xws := xws_in (List.mem_append_right _ (List.mem_of_getElem? (i := 443) rfl)) rfl
set_option maxRecDepth 100000 in
theorem tw_444 : (Cond.fieldLink "SeldomOps$Judge" (237 : Nat) "SeldomOps$Table" "targets" "[I") ∈ xws := xws_in (List.mem_append_right _ (List.mem_of_getElem? (i := 444) rfl)) rfl
set_option maxRecDepth 100000 in
theorem tw_445 : (Cond.fieldLink "SeldomOps$Table" (18 : Nat) "SeldomOps$Table" "entries" "I") ∈ xws := xws_in (List.mem_append_right _ (List.mem_of_getElem? (i := 445) rfl)) rfl
set_option maxRecDepth 100000 in
theorem tw_446 : (Cond.fieldLink "SeldomOps" (107 : Nat) "SeldomOps$Table" "entries" "I") ∈ xws := xws_in (List.mem_append_right _ (List.mem_of_getElem? (i := 446) rfl)) rfl
set_option maxRecDepth 100000 in
theorem tw_447 : (Cond.fieldLink "SeldomOps$Judge" (234 : Nat) "SeldomOps$Table" "entries" "I") ∈ xws := xws_in (List.mem_append_right _ (List.mem_of_getElem? (i := 447) rfl)) rfl
set_option maxRecDepth 100000 in
theorem tw_465 : (Cond.methodLink "SeldomOps" (97 : Nat) ({ cls := "SeldomOps$Program", name := "findTable", desc := "(I)LSeldomOps$Table;" } : MethodName)) ∈ xws := xws_in (List.mem_append_right _ (List.mem_of_getElem? (i := 465) rfl)) rfl
set_option maxRecDepth 100000 in
theorem tw_466 : (Cond.instanceMethod ({ cls := "SeldomOps$Program", name := "findTable", desc := "(I)LSeldomOps$Table;" } : MethodName)) ∈ xws := xws_in (List.mem_append_right _ (List.mem_of_getElem? (i := 466) rfl)) rfl
set_option maxRecDepth 100000 in
theorem tw_467 : (Cond.selects "SeldomOps$Program" ({ cls := "SeldomOps$Program", name := "findTable", desc := "(I)LSeldomOps$Table;" } : MethodName) ({ cls := "SeldomOps$Program", name := "findTable", desc := "(I)LSeldomOps$Table;" } : MethodName)) ∈ xws := xws_in (List.mem_append_right _ (List.mem_of_getElem? (i := 467) rfl)) rfl
set_option maxRecDepth 100000 in
theorem tw_468 : (Cond.code ({ cls := "SeldomOps$Program", name := "findTable", desc := "(I)LSeldomOps$Table;" } : MethodName) prog_6_method_3_code (2 : Nat) (Option.some (FieldType.object "SeldomOps$Table"))) ∈ xws := xws_in (List.mem_append_right _ (List.mem_of_getElem? (i := 468) rfl)) rfl
set_option maxRecDepth 100000 in
theorem tw_469 : (Cond.methodLink "SeldomOps" (101 : Nat) ({ cls := "SeldomOps$Table", name := "mayFollow", desc := "(I)Z" } : MethodName)) ∈ xws := xws_in (List.mem_append_right _ (List.mem_of_getElem? (i := 469) rfl)) rfl
set_option maxRecDepth 100000 in
theorem tw_470 : (Cond.instanceMethod ({ cls := "SeldomOps$Table", name := "mayFollow", desc := "(I)Z" } : MethodName)) ∈ xws := xws_in (List.mem_append_right _ (List.mem_of_getElem? (i := 470) rfl)) rfl
set_option maxRecDepth 100000 in
theorem tw_471 : (Cond.selects "SeldomOps$Table" ({ cls := "SeldomOps$Table", name := "mayFollow", desc := "(I)Z" } : MethodName) ({ cls := "SeldomOps$Table", name := "mayFollow", desc := "(I)Z" } : MethodName)) ∈ xws := xws_in (List.mem_append_right _ (List.mem_of_getElem? (i := 471) rfl)) rfl
set_option maxRecDepth 100000 in
theorem tw_472 : (Cond.code ({ cls := "SeldomOps$Table", name := "mayFollow", desc := "(I)Z" } : MethodName) prog_9_method_2_code (2 : Nat) (Option.some FieldType.boolean)) ∈ xws := xws_in (List.mem_append_right _ (List.mem_of_getElem? (i := 472) rfl)) rfl
set_option maxRecDepth 100000 in
theorem tw_473 : (Cond.methodLink "SeldomOps" (110 : Nat) ({ cls := "SeldomOps$Table", name := "addEntry", desc := "(II)I" } : MethodName)) ∈ xws := xws_in (List.mem_append_right _ (List.mem_of_getElem? (i := 473) rfl)) rfl
set_option maxRecDepth 100000 in
theorem tw_474 : (Cond.instanceMethod ({ cls := "SeldomOps$Table", name := "addEntry", desc := "(II)I" } : MethodName)) ∈ xws := xws_in (List.mem_append_right _ (List.mem_of_getElem? (i := 474) rfl)) rfl
set_option maxRecDepth 100000 in
theorem tw_475 : (Cond.selects "SeldomOps$Table" ({ cls := "SeldomOps$Table", name := "addEntry", desc := "(II)I" } : MethodName) ({ cls := "SeldomOps$Table", name := "addEntry", desc := "(II)I" } : MethodName)) ∈ xws := xws_in (List.mem_append_right _ (List.mem_of_getElem? (i := 475) rfl)) rfl
set_option maxRecDepth 100000 in
theorem tw_476 : (Cond.code ({ cls := "SeldomOps$Table", name := "addEntry", desc := "(II)I" } : MethodName) prog_9_method_3_code (3 : Nat) (Option.some FieldType.int)) ∈ xws := xws_in (List.mem_append_right _ (List.mem_of_getElem? (i := 476) rfl)) rfl
set_option maxRecDepth 100000 in
theorem tw_485 : (Cond.methodLink "SeldomOps" (114 : Nat) ({ cls := "SeldomOps$Judge", name := "examine", desc := "(ILSeldomOps$Method;)I" } : MethodName)) ∈ xws := xws_in (List.mem_append_right _ (List.mem_of_getElem? (i := 485) rfl)) rfl
set_option maxRecDepth 100000 in
theorem tw_486 : (Cond.instanceMethod ({ cls := "SeldomOps$Judge", name := "examine", desc := "(ILSeldomOps$Method;)I" } : MethodName)) ∈ xws := xws_in (List.mem_append_right _ (List.mem_of_getElem? (i := 486) rfl)) rfl
set_option maxRecDepth 100000 in
theorem tw_487 : (Cond.selects "SeldomOps$Judge" ({ cls := "SeldomOps$Judge", name := "examine", desc := "(ILSeldomOps$Method;)I" } : MethodName) ({ cls := "SeldomOps$Judge", name := "examine", desc := "(ILSeldomOps$Method;)I" } : MethodName)) ∈ xws := xws_in (List.mem_append_right _ (List.mem_of_getElem? (i := 487) rfl)) rfl
set_option maxRecDepth 100000 in
theorem tw_488 : (Cond.code ({ cls := "SeldomOps$Judge", name := "examine", desc := "(ILSeldomOps$Method;)I" } : MethodName) prog_3_method_2_code (6 : Nat) (Option.some FieldType.int)) ∈ xws := xws_in (List.mem_append_right _ (List.mem_of_getElem? (i := 488) rfl)) rfl
set_option maxRecDepth 100000 in
theorem tw_489 : (Cond.methodLink "SeldomOps$Judge" (41 : Nat) ({ cls := "SeldomOps$Judge", name := "begin", desc := "(LSeldomOps$Method;)V" } : MethodName)) ∈ xws := xws_in (List.mem_append_right _ (List.mem_of_getElem? (i := 489) rfl)) rfl
set_option maxRecDepth 100000 in
theorem tw_491 : (Cond.instanceMethod ({ cls := "SeldomOps$Judge", name := "begin", desc := "(LSeldomOps$Method;)V" } : MethodName)) ∈ xws := xws_in (List.mem_append_right _ (List.mem_of_getElem? (i := 491) rfl)) rfl
set_option maxRecDepth 100000 in
theorem tw_492 : (Cond.code ({ cls := "SeldomOps$Judge", name := "begin", desc := "(LSeldomOps$Method;)V" } : MethodName) prog_3_method_3_code (4 : Nat) (Option.none : Option FieldType)) ∈ xws := xws_in (List.mem_append_right _ (List.mem_of_getElem? (i := 492) rfl)) rfl
set_option maxRecDepth 100000 in
theorem tw_493 : (Cond.methodLink "SeldomOps$Judge" (80 : Nat) ({ cls := "SeldomOps$Words", name := "clear", desc := "()V" } : MethodName)) ∈ xws := xws_in (List.mem_append_right _ (List.mem_of_getElem? (i := 493) rfl)) rfl
set_option maxRecDepth 100000 in
theorem tw_494 : (Cond.instanceMethod ({ cls := "SeldomOps$Words", name := "clear", desc := "()V" } : MethodName)) ∈ xws := xws_in (List.mem_append_right _ (List.mem_of_getElem? (i := 494) rfl)) rfl
set_option maxRecDepth 100000 in
theorem tw_495 : (Cond.selects "SeldomOps$Words" ({ cls := "SeldomOps$Words", name := "clear", desc := "()V" } : MethodName) ({ cls := "SeldomOps$Words", name := "clear", desc := "()V" } : MethodName)) ∈ xws := xws_in (List.mem_append_right _ (List.mem_of_getElem? (i := 495) rfl)) rfl
set_option maxRecDepth 100000 in
theorem tw_496 : (Cond.code ({ cls := "SeldomOps$Words", name := "clear", desc := "()V" } : MethodName) prog_12_method_2_code (1 : Nat) (Option.none : Option FieldType)) ∈ xws := xws_in (List.mem_append_right _ (List.mem_of_getElem? (i := 496) rfl)) rfl
set_option maxRecDepth 100000 in
theorem tw_497 : (Cond.constantLong "SeldomOps$Judge" (89 : Nat) (5 : Int64)) ∈ xws := xws_in (List.mem_append_right _ (List.mem_of_getElem? (i := 497) rfl)) rfl
set_option maxRecDepth 100000 in
theorem tw_498 : (Cond.methodLink "SeldomOps$Judge" (98 : Nat) ({ cls := "SeldomOps$Shape", name := "store", desc := "(II)V" } : MethodName)) ∈ xws := xws_in (List.mem_append_right _ (List.mem_of_getElem? (i := 498) rfl)) rfl
set_option maxRecDepth 100000 in
theorem tw_499 : (Cond.instanceMethod ({ cls := "SeldomOps$Shape", name := "store", desc := "(II)V" } : MethodName)) ∈ xws := xws_in (List.mem_append_right _ (List.mem_of_getElem? (i := 499) rfl)) rfl
set_option maxRecDepth 100000 in
theorem tw_500 : (Cond.selects "SeldomOps$Shape" ({ cls := "SeldomOps$Shape", name := "store", desc := "(II)V" } : MethodName) ({ cls := "SeldomOps$Shape", name := "store", desc := "(II)V" } : MethodName)) ∈ xws := xws_in (List.mem_append_right _ (List.mem_of_getElem? (i := 500) rfl)) rfl
set_option maxRecDepth 100000 in
theorem tw_501 : (Cond.code ({ cls := "SeldomOps$Shape", name := "store", desc := "(II)V" } : MethodName) prog_7_method_5_code (3 : Nat) (Option.none : Option FieldType)) ∈ xws := xws_in (List.mem_append_right _ (List.mem_of_getElem? (i := 501) rfl)) rfl
set_option maxRecDepth 100000 in
theorem tw_502 : (Cond.methodLink "SeldomOps$Shape" (60 : Nat) ({ cls := "SeldomOps$Shape", name := "writeLocal", desc := "(II)V" } : MethodName)) ∈ xws := xws_in (List.mem_append_right _ (List.mem_of_getElem? (i := 502) rfl)) rfl
set_option maxRecDepth 100000 in
theorem tw_504 : (Cond.instanceMethod ({ cls := "SeldomOps$Shape", name := "writeLocal", desc := "(II)V" } : MethodName)) ∈ xws := xws_in (List.mem_append_right _ (List.mem_of_getElem? (i := 504) rfl)) rfl
set_option maxRecDepth 100000 in
theorem tw_505 : (Cond.code ({ cls := "SeldomOps$Shape", name := "writeLocal", desc := "(II)V" } : MethodName) prog_7_method_7_code (3 : Nat) (Option.none : Option FieldType)) ∈ xws := xws_in (List.mem_append_right _ (List.mem_of_getElem? (i := 505) rfl)) rfl
set_option maxRecDepth 100000 in
theorem tw_509 : (Cond.static ({ cls := "SeldomOps", name := "endOf", desc := "(I)I" } : MethodName)) ∈ xws := xws_in (List.mem_append_right _ (List.mem_of_getElem? (i := 509) rfl)) rfl
set_option maxRecDepth 100000 in
theorem tw_510 : (Cond.code ({ cls := "SeldomOps", name := "endOf", desc := "(I)I" } : MethodName) prog_1_method_24_code (1 : Nat) (Option.some FieldType.int)) ∈ xws := xws_in (List.mem_append_right _ (List.mem_of_getElem? (i := 510) rfl)) rfl
set_option maxRecDepth 100000 in
theorem tw_511 : (Cond.methodLink "SeldomOps$Shape" (64 : Nat) ({ cls := "SeldomOps$Shape", name := "dropHalves", desc := "([JI)V" } : MethodName)) ∈ xws := xws_in (List.mem_append_right _ (List.mem_of_getElem? (i := 511) rfl)) rfl
set_option maxRecDepth 100000 in
theorem tw_512 : (Cond.static ({ cls := "SeldomOps$Shape", name := "dropHalves", desc := "([JI)V" } : MethodName)) ∈ xws := xws_in (List.mem_append_right _ (List.mem_of_getElem? (i := 512) rfl)) rfl
set_option maxRecDepth 100000 in
theorem tw_513 : (Cond.code ({ cls := "SeldomOps$Shape", name := "dropHalves", desc := "([JI)V" } : MethodName) prog_7_method_8_code (11 : Nat) (Option.none : Option FieldType)) ∈ xws := xws_in (List.mem_append_right _ (List.mem_of_getElem? (i := 513) rfl)) rfl
set_option maxRecDepth 100000 in
theorem tw_514 : (Cond.constantLong "SeldomOps$Shape" (72 : Nat) (5 : Int64)) ∈ xws := xws_in (List.mem_append_right _ (List.mem_of_getElem? (i := 514) rfl)) rfl
set_option maxRecDepth 100000 in
theorem tw_515 : (Cond.constantLong "SeldomOps$Shape" (74 : Nat) (6 : Int64)) ∈ xws := xws_in (List.mem_append_right _ (List.mem_of_getElem? (i := 515) rfl)) rfl
set_option maxRecDepth 100000 in
theorem tw_516 : (Cond.constantLong "SeldomOps$Shape" (76 : Nat) (3 : Int64)) ∈ xws := xws_in (List.mem_append_right _ (List.mem_of_getElem? (i := 516) rfl)) rfl
set_option maxRecDepth 100000 in
theorem tw_517 : (Cond.constantLong "SeldomOps$Shape" (78 : Nat) (7 : Int64)) ∈ xws := xws_in (List.mem_append_right _ (List.mem_of_getElem? (i := 517) rfl)) rfl
set_option maxRecDepth 100000 in
theorem tw_519 : (Cond.methodLink "SeldomOps$Judge" (106 : Nat) ({ cls := "SeldomOps$Shapes", name := "forget", desc := "()V" } : MethodName)) ∈ xws := xws_in (List.mem_append_right _ (List.mem_of_getElem? (i := 519) rfl)) rfl
set_option maxRecDepth 100000 in
theorem tw_520 : (Cond.instanceMethod ({ cls := "SeldomOps$Shapes", name := "forget", desc := "()V" } : MethodName)) ∈ xws := xws_in (List.mem_append_right _ (List.mem_of_getElem? (i := 520) rfl)) rfl
set_option maxRecDepth 100000 in
theorem tw_521 : (Cond.selects "SeldomOps$Shapes" ({ cls := "SeldomOps$Shapes", name := "forget", desc := "()V" } : MethodName) ({ cls := "SeldomOps$Shapes", name := "forget", desc := "()V" } : MethodName)) ∈ xws := xws_in (List.mem_append_right _ (List.mem_of_getElem? (i := 521) rfl)) rfl
set_option maxRecDepth 100000 in
theorem tw_522 : (Cond.code ({ cls := "SeldomOps$Shapes", name := "forget", desc := "()V" } : MethodName) prog_8_method_2_code (2 : Nat) (Option.none : Option FieldType)) ∈ xws := xws_in (List.mem_append_right _ (List.mem_of_getElem? (i := 522) rfl)) rfl
set_option maxRecDepth 100000 in
theorem tw_523 : (Cond.methodLink "SeldomOps$Judge" (109 : Nat) ({ cls := "SeldomOps$Shapes", name := "bring", desc := "(ILSeldomOps$Shape;)Z" } : MethodName)) ∈ xws := xws_in (List.mem_append_right _ (List.mem_of_getElem? (i := 523) rfl)) rfl
set_option maxRecDepth 100000 in
theorem tw_524 : (Cond.instanceMethod ({ cls := "SeldomOps$Shapes", name := "bring", desc := "(ILSeldomOps$Shape;)Z" } : MethodName)) ∈ xws := xws_in (List.mem_append_right _ (List.mem_of_getElem? (i := 524) rfl)) rfl
set_option maxRecDepth 100000 in
theorem tw_525 : (Cond.selects "SeldomOps$Shapes" ({ cls := "SeldomOps$Shapes", name := "bring", desc := "(ILSeldomOps$Shape;)Z" } : MethodName) ({ cls := "SeldomOps$Shapes", name := "bring", desc := "(ILSeldomOps$Shape;)Z" } : MethodName)) ∈ xws := xws_in (List.mem_append_right _ (List.mem_of_getElem? (i := 525) rfl)) rfl
set_option maxRecDepth 100000 in
theorem tw_526 : (Cond.code ({ cls := "SeldomOps$Shapes", name := "bring", desc := "(ILSeldomOps$Shape;)Z" } : MethodName) prog_8_method_5_code (3 : Nat) (Option.some FieldType.boolean)) ∈ xws := xws_in (List.mem_append_right _ (List.mem_of_getElem? (i := 526) rfl)) rfl
set_option maxRecDepth 100000 in
theorem tw_527 : (Cond.methodLink "SeldomOps$Shapes" (48 : Nat) ({ cls := "SeldomOps$Shapes", name := "keep", desc := "(ILSeldomOps$Shape;)V" } : MethodName)) ∈ xws := xws_in (List.mem_append_right _ (List.mem_of_getElem? (i := 527) rfl)) rfl
set_option maxRecDepth 100000 in
theorem tw_529 : (Cond.instanceMethod ({ cls := "SeldomOps$Shapes", name := "keep", desc := "(ILSeldomOps$Shape;)V" } : MethodName)) ∈ xws := xws_in (List.mem_append_right _ (List.mem_of_getElem? (i := 529) rfl)) rfl
set_option maxRecDepth 100000 in
theorem tw_530 : (Cond.code ({ cls := "SeldomOps$Shapes", name := "keep", desc := "(ILSeldomOps$Shape;)V" } : MethodName) prog_8_method_7_code (3 : Nat) (Option.none : Option FieldType)) ∈ xws := xws_in (List.mem_append_right _ (List.mem_of_getElem? (i := 530) rfl)) rfl
set_option maxRecDepth 100000 in
theorem tw_531 : (Cond.methodLink "SeldomOps$Shapes" (41 : Nat) ({ cls := "java/lang/System", name := "arraycopy", desc := "(Ljava/lang/Object;ILjava/lang/Object;II)V" } : MethodName)) ∈ xws := xws_in (List.mem_append_right _ (List.mem_of_getElem? (i := 531) rfl)) rfl
set_option maxRecDepth 100000 in
theorem tw_532 : (Cond.static ({ cls := "java/lang/System", name := "arraycopy", desc := "(Ljava/lang/Object;ILjava/lang/Object;II)V" } : MethodName)) ∈ xws := xws_in (List.mem_append_right _ (List.mem_of_getElem? (i := 532) rfl)) rfl
set_option maxRecDepth 100000 in
theorem tw_533 : (Cond.native ({ cls := "java/lang/System", name := "arraycopy", desc := "(Ljava/lang/Object;ILjava/lang/Object;II)V" } : MethodName)) ∈ xws := xws_in (List.mem_append_right _ (List.mem_of_getElem? (i := 533) rfl)) rfl
set_option maxRecDepth 100000 in
theorem tw_534 : (Cond.methodLink "SeldomOps$Shapes" (52 : Nat) ({ cls := "SeldomOps$Shapes", name := "isStack", desc := "(ILSeldomOps$Words;)Z" } : MethodName)) ∈ xws := xws_in (List.mem_append_right _ (List.mem_of_getElem? (i := 534) rfl)) rfl
set_option maxRecDepth 100000 in
theorem tw_536 : (Cond.instanceMethod ({ cls := "SeldomOps$Shapes", name := "isStack", desc := "(ILSeldomOps$Words;)Z" } : MethodName)) ∈ xws := xws_in (List.mem_append_right _ (List.mem_of_getElem? (i := 536) rfl)) rfl
set_option maxRecDepth 100000 in
theorem tw_537 : (Cond.code ({ cls := "SeldomOps$Shapes", name := "isStack", desc := "(ILSeldomOps$Words;)Z" } : MethodName) prog_8_method_8_code (4 : Nat) (Option.some FieldType.boolean)) ∈ xws := xws_in (List.mem_append_right _ (List.mem_of_getElem? (i := 537) rfl)) rfl
set_option maxRecDepth 100000 in
theorem tw_538 : (Cond.methodLink "SeldomOps$Shapes" (60 : Nat) ({ cls := "SeldomOps$Words", name := "at", desc := "(I)J" } : MethodName)) ∈ xws := xws_in (List.mem_append_right _ (List.mem_of_getElem? (i := 538) rfl)) rfl
set_option maxRecDepth 100000 in
theorem tw_539 : (Cond.instanceMethod ({ cls := "SeldomOps$Words", name := "at", desc := "(I)J" } : MethodName)) ∈ xws := xws_in (List.mem_append_right _ (List.mem_of_getElem? (i := 539) rfl)) rfl
set_option maxRecDepth 100000 in
theorem tw_540 : (Cond.selects "SeldomOps$Words" ({ cls := "SeldomOps$Words", name := "at", desc := "(I)J" } : MethodName) ({ cls := "SeldomOps$Words", name := "at", desc := "(I)J" } : MethodName)) ∈ xws := xws_in (List.mem_append_right _ (List.mem_of_getElem? (i := 540) rfl)) rfl
set_option maxRecDepth 100000 in
theorem tw_541 : (Cond.code ({ cls := "SeldomOps$Words", name := "at", desc := "(I)J" } : MethodName) prog_12_method_3_code (2 : Nat) (Option.some FieldType.long)) ∈ xws := xws_in (List.mem_append_right _ (List.mem_of_getElem? (i := 541) rfl)) rfl
set_option maxRecDepth 100000 in
theorem tw_542 : (Cond.constantLong "SeldomOps$Words" (19 : Nat) (-1 : Int64)) ∈ xws := xws_in (List.mem_append_right _ (List.mem_of_getElem? (i := 542) rfl)) rfl
set_option maxRecDepth 100000 in
theorem tw_543 : (Cond.methodLink "SeldomOps$Shapes" (56 : Nat) ({ cls := "SeldomOps$Shapes", name := "joinLocals", desc := "(I[J)Z" } : MethodName)) ∈ xws := xws_in (List.mem_append_right _ (List.mem_of_getElem? (i := 543) rfl)) rfl
set_option maxRecDepth 100000 in
theorem tw_545 : (Cond.instanceMethod ({ cls := "SeldomOps$Shapes", name := "joinLocals", desc := "(I[J)Z" } : MethodName)) ∈ xws := xws_in (List.mem_append_right _ (List.mem_of_getElem? (i := 545) rfl)) rfl
set_option maxRecDepth 100000 in
theorem tw_546 : (Cond.code ({ cls := "SeldomOps$Shapes", name := "joinLocals", desc := "(I[J)Z" } : MethodName) prog_8_method_9_code (5 : Nat) (Option.some FieldType.boolean)) ∈ xws := xws_in (List.mem_append_right _ (List.mem_of_getElem? (i := 546) rfl)) rfl
set_option maxRecDepth 100000 in
theorem tw_547 : (Cond.constantLong "SeldomOps$Shapes" (64 : Nat) (5 : Int64)) ∈ xws := xws_in (List.mem_append_right _ (List.mem_of_getElem? (i := 547) rfl)) rfl
set_option maxRecDepth 100000 in
theorem tw_548 : (Cond.methodLink "SeldomOps$Shapes" (66 : Nat) ({ cls := "SeldomOps$Shape", name := "dropHalves", desc := "([JI)V" } : MethodName)) ∈ xws := xws_in (List.mem_append_right _ (List.mem_of_getElem? (i := 548) rfl)) rfl
set_option maxRecDepth 100000 in
theorem tw_549 : (Cond.methodLink "SeldomOps$Judge" (58 : Nat) ({ cls := "SeldomOps$Judge", name := "ownFault", desc := "(LSeldomOps$Method;I)I" } : MethodName)) ∈ xws := xws_in (List.mem_append_right _ (List.mem_of_getElem? (i := 549) rfl)) rfl
set_option maxRecDepth 100000 in
theorem tw_551 : (Cond.instanceMethod ({ cls := "SeldomOps$Judge", name := "ownFault", desc := "(LSeldomOps$Method;I)I" } : MethodName)) ∈ xws := xws_in (List.mem_append_right _ (List.mem_of_getElem? (i := 551) rfl)) rfl
set_option maxRecDepth 100000 in
theorem tw_552 : (Cond.code ({ cls := "SeldomOps$Judge", name := "ownFault", desc := "(LSeldomOps$Method;I)I" } : MethodName) prog_3_method_4_code (6 : Nat) (Option.some FieldType.int)) ∈ xws := xws_in (List.mem_append_right _ (List.mem_of_getElem? (i := 552) rfl)) rfl
set_option maxRecDepth 100000 in
theorem tw_553 : (Cond.methodLink "SeldomOps$Judge" (122 : Nat) ({ cls := "SeldomOps$Shapes", name := "load", desc := "(ILSeldomOps$Shape;)V" } : MethodName)) ∈ xws := xws_in (List.mem_append_right _ (List.mem_of_getElem? (i := 553) rfl)) rfl
set_option maxRecDepth 100000 in
theorem tw_554 : (Cond.instanceMethod ({ cls := "SeldomOps$Shapes", name := "load", desc := "(ILSeldomOps$Shape;)V" } : MethodName)) ∈ xws := xws_in (List.mem_append_right _ (List.mem_of_getElem? (i := 554) rfl)) rfl
set_option maxRecDepth 100000 in
theorem tw_555 : (Cond.selects "SeldomOps$Shapes" ({ cls := "SeldomOps$Shapes", name := "load", desc := "(ILSeldomOps$Shape;)V" } : MethodName) ({ cls := "SeldomOps$Shapes", name := "load", desc := "(ILSeldomOps$Shape;)V" } : MethodName)) ∈ xws := xws_in (List.mem_append_right _ (List.mem_of_getElem? (i := 555) rfl)) rfl
set_option maxRecDepth 100000 in
theorem tw_556 : (Cond.code ({ cls := "SeldomOps$Shapes", name := "load", desc := "(ILSeldomOps$Shape;)V" } : MethodName) prog_8_method_4_code (3 : Nat) (Option.none : Option FieldType)) ∈ xws := xws_in (List.mem_append_right _ (List.mem_of_getElem? (i := 556) rfl)) rfl
set_option maxRecDepth 100000 in
theorem tw_557 : (Cond.methodLink "SeldomOps$Judge" (126 : Nat) ({ cls := "SeldomOps$Judge", name := "operandsAreSuch", desc := "(III)Z" } : MethodName)) ∈ xws := xws_in (List.mem_append_right _ (List.mem_of_getElem? (i := 557) rfl)) rfl
set_option maxRecDepth 100000 in
theorem tw_559 : (Cond.instanceMethod ({ cls := "SeldomOps$Judge", name := "operandsAreSuch", desc := "(III)Z" } : MethodName)) ∈ xws := xws_in (List.mem_append_right _ (List.mem_of_getElem? (i := 559) rfl)) rfl
set_option maxRecDepth 100000 in
theorem tw_560 : (Cond.code ({ cls := "SeldomOps$Judge", name := "operandsAreSuch", desc := "(III)Z" } : MethodName) prog_3_method_5_code (4 : Nat) (Option.some FieldType.boolean)) ∈ xws := xws_in (List.mem_append_right _ (List.mem_of_getElem? (i := 560) rfl)) rfl
set_option maxRecDepth 100000 in
theorem tw_563 : (Cond.static ({ cls := "SeldomOps", name := "isType", desc := "(I)Z" } : MethodName)) ∈ xws := xws_in (List.mem_append_right _ (List.mem_of_getElem? (i := 563) rfl)) rfl
set_option maxRecDepth 100000 in
theorem tw_564 : (Cond.code ({ cls := "SeldomOps", name := "isType", desc := "(I)Z" } : MethodName) prog_1_method_26_code (1 : Nat) (Option.some FieldType.boolean)) ∈ xws := xws_in (List.mem_append_right _ (List.mem_of_getElem? (i := 564) rfl)) rfl
set_option maxRecDepth 100000 in
theorem tw_565 : (Cond.methodLink "SeldomOps$Judge" (130 : Nat) ({ cls := "SeldomOps$Judge", name := "targetsAreThere", desc := "(LSeldomOps$Method;I)Z" } : MethodName)) ∈ xws := xws_in (List.mem_append_right _ (List.mem_of_getElem? (i := 565) rfl)) rfl
set_option maxRecDepth 100000 in
theorem tw_567 : (Cond.instanceMethod ({ cls := "SeldomOps$Judge", name := "targetsAreThere", desc := "(LSeldomOps$Method;I)Z" } : MethodName)) ∈ xws := xws_in (List.mem_append_right _ (List.mem_of_getElem? (i := 567) rfl)) rfl
set_option maxRecDepth 100000 in
theorem tw_568 : (Cond.code ({ cls := "SeldomOps$Judge", name := "targetsAreThere", desc := "(LSeldomOps$Method;I)Z" } : MethodName) prog_3_method_6_code (6 : Nat) (Option.some FieldType.boolean)) ∈ xws := xws_in (List.mem_append_right _ (List.mem_of_getElem? (i := 568) rfl)) rfl
set_option maxRecDepth 100000 in
theorem tw_569 : (Cond.methodLink "SeldomOps$Judge" (171 : Nat) ({ cls := "SeldomOps$Program", name := "findTable", desc := "(I)LSeldomOps$Table;" } : MethodName)) ∈ xws := xws_in (List.mem_append_right _ (List.mem_of_getElem? (i := 569) rfl)) rfl
set_option maxRecDepth 100000 in
theorem tw_570 : (Cond.methodLink "SeldomOps$Judge" (175 : Nat) ({ cls := "SeldomOps$Table", name := "staysBelow", desc := "(I)Z" } : MethodName)) ∈ xws := xws_in (List.mem_append_right _ (List.mem_of_getElem? (i := 570) rfl)) rfl
set_option maxRecDepth 100000 in
theorem tw_571 : (Cond.instanceMethod ({ cls := "SeldomOps$Table", name := "staysBelow", desc := "(I)Z" } : MethodName)) ∈ xws := xws_in (List.mem_append_right _ (List.mem_of_getElem? (i := 571) rfl)) rfl
set_option maxRecDepth 100000 in
theorem tw_572 : (Cond.selects "SeldomOps$Table" ({ cls := "SeldomOps$Table", name := "staysBelow", desc := "(I)Z" } : MethodName) ({ cls := "SeldomOps$Table", name := "staysBelow", desc := "(I)Z" } : MethodName)) ∈ xws := xws_in (List.mem_append_right _ (List.mem_of_getElem? (i := 572) rfl)) rfl
set_option maxRecDepth 100000 in
theorem tw_573 : (Cond.code ({ cls := "SeldomOps$Table", name := "staysBelow", desc := "(I)Z" } : MethodName) prog_9_method_5_code (3 : Nat) (Option.some FieldType.boolean)) ∈ xws := xws_in (List.mem_append_right _ (List.mem_of_getElem? (i := 573) rfl)) rfl
set_option maxRecDepth 100000 in
theorem tw_574 : (Cond.methodLink "SeldomOps$Judge" (183 : Nat) ({ cls := "SeldomOps$Method", name := "covers", desc := "(II)Z" } : MethodName)) ∈ xws := xws_in (List.mem_append_right _ (List.mem_of_getElem? (i := 574) rfl)) rfl
set_option maxRecDepth 100000 in
theorem tw_575 : (Cond.instanceMethod ({ cls := "SeldomOps$Method", name := "covers", desc := "(II)Z" } : MethodName)) ∈ xws := xws_in (List.mem_append_right _ (List.mem_of_getElem? (i := 575) rfl)) rfl
set_option maxRecDepth 100000 in
theorem tw_576 : (Cond.selects "SeldomOps$Method" ({ cls := "SeldomOps$Method", name := "covers", desc := "(II)Z" } : MethodName) ({ cls := "SeldomOps$Method", name := "covers", desc := "(II)Z" } : MethodName)) ∈ xws := xws_in (List.mem_append_right _ (List.mem_of_getElem? (i := 576) rfl)) rfl
set_option maxRecDepth 100000 in
theorem tw_577 : (Cond.code ({ cls := "SeldomOps$Method", name := "covers", desc := "(II)Z" } : MethodName) prog_4_method_5_code (3 : Nat) (Option.some FieldType.boolean)) ∈ xws := xws_in (List.mem_append_right _ (List.mem_of_getElem? (i := 577) rfl)) rfl
set_option maxRecDepth 100000 in
theorem tw_578 : (Cond.methodLink "SeldomOps$Judge" (133 : Nat) ({ cls := "SeldomOps$Judge", name := "takeAll", desc := "(III)Z" } : MethodName)) ∈ xws := xws_in (List.mem_append_right _ (List.mem_of_getElem? (i := 578) rfl)) rfl
set_option maxRecDepth 100000 in
theorem tw_580 : (Cond.instanceMethod ({ cls := "SeldomOps$Judge", name := "takeAll", desc := "(III)Z" } : MethodName)) ∈ xws := xws_in (List.mem_append_right _ (List.mem_of_getElem? (i := 580) rfl)) rfl
set_option maxRecDepth 100000 in
theorem tw_581 : (Cond.code ({ cls := "SeldomOps$Judge", name := "takeAll", desc := "(III)Z" } : MethodName) prog_3_method_7_code (4 : Nat) (Option.some FieldType.boolean)) ∈ xws := xws_in (List.mem_append_right _ (List.mem_of_getElem? (i := 581) rfl)) rfl
set_option maxRecDepth 100000 in
theorem tw_582 : (Cond.methodLink "SeldomOps$Judge" (189 : Nat) ({ cls := "SeldomOps$Shape", name := "take", desc := "(I)Z" } : MethodName)) ∈ xws := xws_in (List.mem_append_right _ (List.mem_of_getElem? (i := 582) rfl)) rfl
set_option maxRecDepth 100000 in
theorem tw_583 : (Cond.instanceMethod ({ cls := "SeldomOps$Shape", name := "take", desc := "(I)Z" } : MethodName)) ∈ xws := xws_in (List.mem_append_right _ (List.mem_of_getElem? (i := 583) rfl)) rfl
set_option maxRecDepth 100000 in
theorem tw_584 : (Cond.selects "SeldomOps$Shape" ({ cls := "SeldomOps$Shape", name := "take", desc := "(I)Z" } : MethodName) ({ cls := "SeldomOps$Shape", name := "take", desc := "(I)Z" } : MethodName)) ∈ xws := xws_in (List.mem_append_right _ (List.mem_of_getElem? (i := 584) rfl)) rfl
set_option maxRecDepth 100000 in
theorem tw_585 : (Cond.code ({ cls := "SeldomOps$Shape", name := "take", desc := "(I)Z" } : MethodName) prog_7_method_3_code (3 : Nat) (Option.some FieldType.boolean)) ∈ xws := xws_in (List.mem_append_right _ (List.mem_of_getElem? (i := 585) rfl)) rfl
set_option maxRecDepth 100000 in
theorem tw_587 : (Cond.methodLink "SeldomOps$Shape" (41 : Nat) ({ cls := "SeldomOps$Words", name := "at", desc := "(I)J" } : MethodName)) ∈ xws := xws_in (List.mem_append_right _ (List.mem_of_getElem? (i := 587) rfl)) rfl
set_option maxRecDepth 100000 in
theorem tw_588 : (Cond.methodLink "SeldomOps$Shape" (45 : Nat) ({ cls := "SeldomOps$Words", name := "drop", desc := "(I)V" } : MethodName)) ∈ xws := xws_in (List.mem_append_right _ (List.mem_of_getElem? (i := 588) rfl)) rfl
set_option maxRecDepth 100000 in
theorem tw_589 : (Cond.instanceMethod ({ cls := "SeldomOps$Words", name := "drop", desc := "(I)V" } : MethodName)) ∈ xws := xws_in (List.mem_append_right _ (List.mem_of_getElem? (i := 589) rfl)) rfl
set_option maxRecDepth 100000 in
theorem tw_590 : (Cond.selects "SeldomOps$Words" ({ cls := "SeldomOps$Words", name := "drop", desc := "(I)V" } : MethodName) ({ cls := "SeldomOps$Words", name := "drop", desc := "(I)V" } : MethodName)) ∈ xws := xws_in (List.mem_append_right _ (List.mem_of_getElem? (i := 590) rfl)) rfl
set_option maxRecDepth 100000 in
theorem tw_591 : (Cond.code ({ cls := "SeldomOps$Words", name := "drop", desc := "(I)V" } : MethodName) prog_12_method_9_code (2 : Nat) (Option.none : Option FieldType)) ∈ xws := xws_in (List.mem_append_right _ (List.mem_of_getElem? (i := 591) rfl)) rfl
set_option maxRecDepth 100000 in
theorem tw_592 : (Cond.methodLink "SeldomOps$Words" (33 : Nat) ({ cls := "java/lang/Math", name := "max", desc := "(II)I" } : MethodName)) ∈ xws := xws_in (List.mem_append_right _ (List.mem_of_getElem? (i := 592) rfl)) rfl
set_option maxRecDepth 100000 in
theorem tw_593 : (Cond.static ({ cls := "java/lang/Math", name := "max", desc := "(II)I" } : MethodName)) ∈ xws := xws_in (List.mem_append_right _ (List.mem_of_getElem? (i := 593) rfl)) rfl
set_option maxRecDepth 100000 in
theorem tw_594 : (Cond.code ({ cls := "java/lang/Math", name := "max", desc := "(II)I" } : MethodName) prog_15_method_65_code (2 : Nat) (Option.some FieldType.int)) ∈ xws := xws_in (List.mem_append_right _ (List.mem_of_getElem? (i := 594) rfl)) rfl
set_option maxRecDepth 100000 in
theorem tw_595 : (Cond.methodLink "SeldomOps$Judge" (192 : Nat) ({ cls := "SeldomOps$Judge", name := "takeCalculated", desc := "(II)Z" } : MethodName)) ∈ xws := xws_in (List.mem_append_right _ (List.mem_of_getElem? (i := 595) rfl)) rfl
set_option maxRecDepth 100000 in
theorem tw_597 : (Cond.instanceMethod ({ cls := "SeldomOps$Judge", name := "takeCalculated", desc := "(II)Z" } : MethodName)) ∈ xws := xws_in (List.mem_append_right _ (List.mem_of_getElem? (i := 597) rfl)) rfl
set_option maxRecDepth 100000 in
theorem tw_598 : (Cond.code ({ cls := "SeldomOps$Judge", name := "takeCalculated", desc := "(II)Z" } : MethodName) prog_3_method_8_code (3 : Nat) (Option.some FieldType.boolean)) ∈ xws := xws_in (List.mem_append_right _ (List.mem_of_getElem? (i := 598) rfl)) rfl
set_option maxRecDepth 100000 in
theorem tw_600 : (Cond.static ({ cls := "SeldomOps", name := "kindCompared", desc := "(I)I" } : MethodName)) ∈ xws := xws_in (List.mem_append_right _ (List.mem_of_getElem? (i := 600) rfl)) rfl
set_option maxRecDepth 100000 in
theorem tw_601 : (Cond.code ({ cls := "SeldomOps", name := "kindCompared", desc := "(I)I" } : MethodName) prog_1_method_28_code (1 : Nat) (Option.some FieldType.int)) ∈ xws := xws_in (List.mem_append_right _ (List.mem_of_getElem? (i := 601) rfl)) rfl
set_option maxRecDepth 100000 in
theorem tw_602 : (Cond.methodLink "SeldomOps$Judge" (198 : Nat) ({ cls := "SeldomOps$Judge", name := "takeSizes", desc := "(I)Z" } : MethodName)) ∈ xws := xws_in (List.mem_append_right _ (List.mem_of_getElem? (i := 602) rfl)) rfl
set_option maxRecDepth 100000 in
theorem tw_604 : (Cond.instanceMethod ({ cls := "SeldomOps$Judge", name := "takeSizes", desc := "(I)Z" } : MethodName)) ∈ xws := xws_in (List.mem_append_right _ (List.mem_of_getElem? (i := 604) rfl)) rfl
set_option maxRecDepth 100000 in
theorem tw_605 : (Cond.code ({ cls := "SeldomOps$Judge", name := "takeSizes", desc := "(I)Z" } : MethodName) prog_3_method_9_code (3 : Nat) (Option.some FieldType.boolean)) ∈ xws := xws_in (List.mem_append_right _ (List.mem_of_getElem? (i := 605) rfl)) rfl
set_option maxRecDepth 100000 in
theorem tw_607 : (Cond.static ({ cls := "SeldomOps", name := "kindOfCell", desc := "(I)I" } : MethodName)) ∈ xws := xws_in (List.mem_append_right _ (List.mem_of_getElem? (i := 607) rfl)) rfl
set_option maxRecDepth 100000 in
theorem tw_608 : (Cond.code ({ cls := "SeldomOps", name := "kindOfCell", desc := "(I)I" } : MethodName) prog_1_method_27_code (1 : Nat) (Option.some FieldType.int)) ∈ xws := xws_in (List.mem_append_right _ (List.mem_of_getElem? (i := 608) rfl)) rfl
set_option maxRecDepth 100000 in
theorem tw_609 : (Cond.methodLink "SeldomOps$Judge" (204 : Nat) ({ cls := "SeldomOps$Program", name := "findMethod", desc := "(I)LSeldomOps$Method;" } : MethodName)) ∈ xws := xws_in (List.mem_append_right _ (List.mem_of_getElem? (i := 609) rfl)) rfl
set_option maxRecDepth 100000 in
theorem tw_610 : (Cond.methodLink "SeldomOps$Judge" (208 : Nat) ({ cls := "SeldomOps$Judge", name := "takeArguments", desc := "(LSeldomOps$Method;)Z" } : MethodName)) ∈ xws := xws_in (List.mem_append_right _ (List.mem_of_getElem? (i := 610) rfl)) rfl
set_option maxRecDepth 100000 in
theorem tw_612 : (Cond.instanceMethod ({ cls := "SeldomOps$Judge", name := "takeArguments", desc := "(LSeldomOps$Method;)Z" } : MethodName)) ∈ xws := xws_in (List.mem_append_right _ (List.mem_of_getElem? (i := 612) rfl)) rfl
set_option maxRecDepth 100000 in
theorem tw_613 : (Cond.code ({ cls := "SeldomOps$Judge", name := "takeArguments", desc := "(LSeldomOps$Method;)Z" } : MethodName) prog_3_method_10_code (3 : Nat) (Option.some FieldType.boolean)) ∈ xws := xws_in (List.mem_append_right _ (List.mem_of_getElem? (i := 613) rfl)) rfl
set_option maxRecDepth 100000 in
theorem tw_614 : (Cond.methodLink "SeldomOps$Judge" (212 : Nat) ({ cls := "SeldomOps$Shape", name := "mayMove", desc := "(I)Z" } : MethodName)) ∈ xws := xws_in (List.mem_append_right _ (List.mem_of_getElem? (i := 614) rfl)) rfl
set_option maxRecDepth 100000 in
theorem tw_615 : (Cond.instanceMethod ({ cls := "SeldomOps$Shape", name := "mayMove", desc := "(I)Z" } : MethodName)) ∈ xws := xws_in (List.mem_append_right _ (List.mem_of_getElem? (i := 615) rfl)) rfl
set_option maxRecDepth 100000 in
theorem tw_616 : (Cond.selects "SeldomOps$Shape" ({ cls := "SeldomOps$Shape", name := "mayMove", desc := "(I)Z" } : MethodName) ({ cls := "SeldomOps$Shape", name := "mayMove", desc := "(I)Z" } : MethodName)) ∈ xws := xws_in (List.mem_append_right _ (List.mem_of_getElem? (i := 616) rfl)) rfl
set_option maxRecDepth 100000 in
theorem tw_617 : (Cond.code ({ cls := "SeldomOps$Shape", name := "mayMove", desc := "(I)Z" } : MethodName) prog_7_method_4_code (4 : Nat) (Option.some FieldType.boolean)) ∈ xws := xws_in (List.mem_append_right _ (List.mem_of_getElem? (i := 617) rfl)) rfl
set_option maxRecDepth 100000 in
theorem tw_623 : (Cond.static ({ cls := "SeldomOps", name := "isEnd", desc := "(J)Z" } : MethodName)) ∈ xws := xws_in (List.mem_append_right _ (List.mem_of_getElem? (i := 623) rfl)) rfl
set_option maxRecDepth 100000 in
theorem tw_624 : (Cond.code ({ cls := "SeldomOps", name := "isEnd", desc := "(J)Z" } : MethodName) prog_1_method_25_code (2 : Nat) (Option.some FieldType.boolean)) ∈ xws := xws_in (List.mem_append_right _ (List.mem_of_getElem? (i := 624) rfl)) rfl
set_option maxRecDepth 100000 in
theorem tw_625 : (Cond.constantLong "SeldomOps" (182 : Nat) (6 : Int64)) ∈ xws := xws_in (List.mem_append_right _ (List.mem_of_getElem? (i := 625) rfl)) rfl
set_option maxRecDepth 100000 in
theorem tw_626 : (Cond.constantLong "SeldomOps" (184 : Nat) (7 : Int64)) ∈ xws := xws_in (List.mem_append_right _ (List.mem_of_getElem? (i := 626) rfl)) rfl
set_option maxRecDepth 100000 in
theorem tw_627 : (Cond.methodLink "SeldomOps$Judge" (136 : Nat) ({ cls := "SeldomOps$Shape", name := "holds", desc := "(II)Z" } : MethodName)) ∈ xws := xws_in (List.mem_append_right _ (List.mem_of_getElem? (i := 627) rfl)) rfl
set_option maxRecDepth 100000 in
theorem tw_628 : (Cond.instanceMethod ({ cls := "SeldomOps$Shape", name := "holds", desc := "(II)Z" } : MethodName)) ∈ xws := xws_in (List.mem_append_right _ (List.mem_of_getElem? (i := 628) rfl)) rfl
set_option maxRecDepth 100000 in
theorem tw_629 : (Cond.selects "SeldomOps$Shape" ({ cls := "SeldomOps$Shape", name := "holds", desc := "(II)Z" } : MethodName) ({ cls := "SeldomOps$Shape", name := "holds", desc := "(II)Z" } : MethodName)) ∈ xws := xws_in (List.mem_append_right _ (List.mem_of_getElem? (i := 629) rfl)) rfl
set_option maxRecDepth 100000 in
theorem tw_630 : (Cond.code ({ cls := "SeldomOps$Shape", name := "holds", desc := "(II)Z" } : MethodName) prog_7_method_6_code (3 : Nat) (Option.some FieldType.boolean)) ∈ xws := xws_in (List.mem_append_right _ (List.mem_of_getElem? (i := 630) rfl)) rfl
set_option maxRecDepth 100000 in
theorem tw_631 : (Cond.methodLink "SeldomOps$Judge" (143 : Nat) ({ cls := "SeldomOps$Judge", name := "putAll", desc := "(III)V" } : MethodName)) ∈ xws := xws_in (List.mem_append_right _ (List.mem_of_getElem? (i := 631) rfl)) rfl
set_option maxRecDepth 100000 in
theorem tw_633 : (Cond.instanceMethod ({ cls := "SeldomOps$Judge", name := "putAll", desc := "(III)V" } : MethodName)) ∈ xws := xws_in (List.mem_append_right _ (List.mem_of_getElem? (i := 633) rfl)) rfl
set_option maxRecDepth 100000 in
theorem tw_634 : (Cond.code ({ cls := "SeldomOps$Judge", name := "putAll", desc := "(III)V" } : MethodName) prog_3_method_11_code (5 : Nat) (Option.none : Option FieldType)) ∈ xws := xws_in (List.mem_append_right _ (List.mem_of_getElem? (i := 634) rfl)) rfl
set_option maxRecDepth 100000 in
theorem tw_635 : (Cond.methodLink "SeldomOps$Judge" (215 : Nat) ({ cls := "SeldomOps$Shape", name := "put", desc := "(I)V" } : MethodName)) ∈ xws := xws_in (List.mem_append_right _ (List.mem_of_getElem? (i := 635) rfl)) rfl
set_option maxRecDepth 100000 in
theorem tw_636 : (Cond.instanceMethod ({ cls := "SeldomOps$Shape", name := "put", desc := "(I)V" } : MethodName)) ∈ xws := xws_in (List.mem_append_right _ (List.mem_of_getElem? (i := 636) rfl)) rfl
set_option maxRecDepth 100000 in
theorem tw_637 : (Cond.selects "SeldomOps$Shape" ({ cls := "SeldomOps$Shape", name := "put", desc := "(I)V" } : MethodName) ({ cls := "SeldomOps$Shape", name := "put", desc := "(I)V" } : MethodName)) ∈ xws := xws_in (List.mem_append_right _ (List.mem_of_getElem? (i := 637) rfl)) rfl
set_option maxRecDepth 100000 in
theorem tw_638 : (Cond.code ({ cls := "SeldomOps$Shape", name := "put", desc := "(I)V" } : MethodName) prog_7_method_2_code (2 : Nat) (Option.none : Option FieldType)) ∈ xws := xws_in (List.mem_append_right _ (List.mem_of_getElem? (i := 638) rfl)) rfl
set_option maxRecDepth 100000 in
theorem tw_639 : (Cond.methodLink "SeldomOps$Shape" (22 : Nat) ({ cls := "SeldomOps$Words", name := "push", desc := "(J)V" } : MethodName)) ∈ xws := xws_in (List.mem_append_right _ (List.mem_of_getElem? (i := 639) rfl)) rfl
set_option maxRecDepth 100000 in
theorem tw_640 : (Cond.instanceMethod ({ cls := "SeldomOps$Words", name := "push", desc := "(J)V" } : MethodName)) ∈ xws := xws_in (List.mem_append_right _ (List.mem_of_getElem? (i := 640) rfl)) rfl
set_option maxRecDepth 100000 in
theorem tw_641 : (Cond.selects "SeldomOps$Words" ({ cls := "SeldomOps$Words", name := "push", desc := "(J)V" } : MethodName) ({ cls := "SeldomOps$Words", name := "push", desc := "(J)V" } : MethodName)) ∈ xws := xws_in (List.mem_append_right _ (List.mem_of_getElem? (i := 641) rfl)) rfl
set_option maxRecDepth 100000 in
theorem tw_642 : (Cond.code ({ cls := "SeldomOps$Words", name := "push", desc := "(J)V" } : MethodName) prog_12_method_4_code (3 : Nat) (Option.none : Option FieldType)) ∈ xws := xws_in (List.mem_append_right _ (List.mem_of_getElem? (i := 642) rfl)) rfl
set_option maxRecDepth 100000 in
theorem tw_643 : (Cond.methodLink "SeldomOps$Judge" (219 : Nat) ({ cls := "SeldomOps$Words", name := "move", desc := "(I)V" } : MethodName)) ∈ xws := xws_in (List.mem_append_right _ (List.mem_of_getElem? (i := 643) rfl)) rfl
set_option maxRecDepth 100000 in
theorem tw_644 : (Cond.instanceMethod ({ cls := "SeldomOps$Words", name := "move", desc := "(I)V" } : MethodName)) ∈ xws := xws_in (List.mem_append_right _ (List.mem_of_getElem? (i := 644) rfl)) rfl
set_option maxRecDepth 100000 in
theorem tw_645 : (Cond.selects "SeldomOps$Words" ({ cls := "SeldomOps$Words", name := "move", desc := "(I)V" } : MethodName) ({ cls := "SeldomOps$Words", name := "move", desc := "(I)V" } : MethodName)) ∈ xws := xws_in (List.mem_append_right _ (List.mem_of_getElem? (i := 645) rfl)) rfl
set_option maxRecDepth 100000 in
theorem tw_646 : (Cond.code ({ cls := "SeldomOps$Words", name := "move", desc := "(I)V" } : MethodName) prog_12_method_10_code (7 : Nat) (Option.none : Option FieldType)) ∈ xws := xws_in (List.mem_append_right _ (List.mem_of_getElem? (i := 646) rfl)) rfl
set_option maxRecDepth 100000 in
theorem tw_648 : (Cond.methodLink "SeldomOps$Words" (43 : Nat) ({ cls := "SeldomOps$Words", name := "drop", desc := "(I)V" } : MethodName)) ∈ xws := xws_in (List.mem_append_right _ (List.mem_of_getElem? (i := 648) rfl)) rfl
set_option maxRecDepth 100000 in
theorem tw_649 : (Cond.methodLink "SeldomOps$Words" (29 : Nat) ({ cls := "SeldomOps$Words", name := "pop", desc := "()J" } : MethodName)) ∈ xws := xws_in (List.mem_append_right _ (List.mem_of_getElem? (i := 649) rfl)) rfl
set_option maxRecDepth 100000 in
theorem tw_650 : (Cond.instanceMethod ({ cls := "SeldomOps$Words", name := "pop", desc := "()J" } : MethodName)) ∈ xws := xws_in (List.mem_append_right _ (List.mem_of_getElem? (i := 650) rfl)) rfl
set_option maxRecDepth 100000 in
theorem tw_651 : (Cond.selects "SeldomOps$Words" ({ cls := "SeldomOps$Words", name := "pop", desc := "()J" } : MethodName) ({ cls := "SeldomOps$Words", name := "pop", desc := "()J" } : MethodName)) ∈ xws := xws_in (List.mem_append_right _ (List.mem_of_getElem? (i := 651) rfl)) rfl
set_option maxRecDepth 100000 in
theorem tw_652 : (Cond.code ({ cls := "SeldomOps$Words", name := "pop", desc := "()J" } : MethodName) prog_12_method_5_code (1 : Nat) (Option.some FieldType.long)) ∈ xws := xws_in (List.mem_append_right _ (List.mem_of_getElem? (i := 652) rfl)) rfl
set_option maxRecDepth 100000 in
theorem tw_653 : (Cond.methodLink "SeldomOps$Words" (21 : Nat) ({ cls := "SeldomOps$Words", name := "push", desc := "(J)V" } : MethodName)) ∈ xws := xws_in (List.mem_append_right _ (List.mem_of_getElem? (i := 653) rfl)) rfl
set_option maxRecDepth 100000 in
theorem tw_655 : (Cond.methodLink "SeldomOps$Words" (50 : Nat) ({ cls := "SeldomOps$Words", name := "copyUnder", desc := "(II)V" } : MethodName)) ∈ xws := xws_in (List.mem_append_right _ (List.mem_of_getElem? (i := 655) rfl)) rfl
set_option maxRecDepth 100000 in
theorem tw_657 : (Cond.instanceMethod ({ cls := "SeldomOps$Words", name := "copyUnder", desc := "(II)V" } : MethodName)) ∈ xws := xws_in (List.mem_append_right _ (List.mem_of_getElem? (i := 657) rfl)) rfl
set_option maxRecDepth 100000 in
theorem tw_658 : (Cond.code ({ cls := "SeldomOps$Words", name := "copyUnder", desc := "(II)V" } : MethodName) prog_12_method_11_code (5 : Nat) (Option.none : Option FieldType)) ∈ xws := xws_in (List.mem_append_right _ (List.mem_of_getElem? (i := 658) rfl)) rfl
set_option maxRecDepth 100000 in
theorem tw_659 : (Cond.methodLink "SeldomOps$Judge" (222 : Nat) ({ cls := "SeldomOps$Judge", name := "kindPut", desc := "(III)I" } : MethodName)) ∈ xws := xws_in (List.mem_append_right _ (List.mem_of_getElem? (i := 659) rfl)) rfl
set_option maxRecDepth 100000 in
theorem tw_661 : (Cond.instanceMethod ({ cls := "SeldomOps$Judge", name := "kindPut", desc := "(III)I" } : MethodName)) ∈ xws := xws_in (List.mem_append_right _ (List.mem_of_getElem? (i := 661) rfl)) rfl
set_option maxRecDepth 100000 in
theorem tw_662 : (Cond.code ({ cls := "SeldomOps$Judge", name := "kindPut", desc := "(III)I" } : MethodName) prog_3_method_12_code (5 : Nat) (Option.some FieldType.int)) ∈ xws := xws_in (List.mem_append_right _ (List.mem_of_getElem? (i := 662) rfl)) rfl
set_option maxRecDepth 100000 in
theorem tw_663 : (Cond.methodLink "SeldomOps$Judge" (150 : Nat) ({ cls := "SeldomOps$Judge", name := "goesToNext", desc := "(I)Z" } : MethodName)) ∈ xws := xws_in (List.mem_append_right _ (List.mem_of_getElem? (i := 663) rfl)) rfl
set_option maxRecDepth 100000 in
theorem tw_664 : (Cond.static ({ cls := "SeldomOps$Judge", name := "goesToNext", desc := "(I)Z" } : MethodName)) ∈ xws := xws_in (List.mem_append_right _ (List.mem_of_getElem? (i := 664) rfl)) rfl
set_option maxRecDepth 100000 in
theorem tw_665 : (Cond.code ({ cls := "SeldomOps$Judge", name := "goesToNext", desc := "(I)Z" } : MethodName) prog_3_method_13_code (1 : Nat) (Option.some FieldType.boolean)) ∈ xws := xws_in (List.mem_append_right _ (List.mem_of_getElem? (i := 665) rfl)) rfl
set_option maxRecDepth 100000 in
theorem tw_666 : (Cond.methodLink "SeldomOps$Judge" (62 : Nat) ({ cls := "SeldomOps$Judge", name := "sendToHandlers", desc := "(LSeldomOps$Method;I)Z" } : MethodName)) ∈ xws := xws_in (List.mem_append_right _ (List.mem_of_getElem? (i := 666) rfl)) rfl
set_option maxRecDepth 100000 in
theorem tw_668 : (Cond.instanceMethod ({ cls := "SeldomOps$Judge", name := "sendToHandlers", desc := "(LSeldomOps$Method;I)Z" } : MethodName)) ∈ xws := xws_in (List.mem_append_right _ (List.mem_of_getElem? (i := 668) rfl)) rfl
set_option maxRecDepth 100000 in
theorem tw_669 : (Cond.code ({ cls := "SeldomOps$Judge", name := "sendToHandlers", desc := "(LSeldomOps$Method;I)Z" } : MethodName) prog_3_method_14_code (4 : Nat) (Option.some FieldType.boolean)) ∈ xws := xws_in (List.mem_append_right _ (List.mem_of_getElem? (i := 669) rfl)) rfl
set_option maxRecDepth 100000 in
theorem tw_670 : (Cond.methodLink "SeldomOps$Judge" (226 : Nat) ({ cls := "SeldomOps$Judge", name := "send", desc := "(LSeldomOps$Method;ILSeldomOps$Shape;)Z" } : MethodName)) ∈ xws := xws_in (List.mem_append_right _ (List.mem_of_getElem? (i := 670) rfl)) rfl
set_option maxRecDepth 100000 in
theorem tw_672 : (Cond.instanceMethod ({ cls := "SeldomOps$Judge", name := "send", desc := "(LSeldomOps$Method;ILSeldomOps$Shape;)Z" } : MethodName)) ∈ xws := xws_in (List.mem_append_right _ (List.mem_of_getElem? (i := 672) rfl)) rfl
set_option maxRecDepth 100000 in
theorem tw_673 : (Cond.code ({ cls := "SeldomOps$Judge", name := "send", desc := "(LSeldomOps$Method;ILSeldomOps$Shape;)Z" } : MethodName) prog_3_method_17_code (4 : Nat) (Option.some FieldType.boolean)) ∈ xws := xws_in (List.mem_append_right _ (List.mem_of_getElem? (i := 673) rfl)) rfl
set_option maxRecDepth 100000 in
theorem tw_674 : (Cond.methodLink "SeldomOps$Judge" (66 : Nat) ({ cls := "SeldomOps$Judge", name := "sendOn", desc := "(LSeldomOps$Method;I)Z" } : MethodName)) ∈ xws := xws_in (List.mem_append_right _ (List.mem_of_getElem? (i := 674) rfl)) rfl
set_option maxRecDepth 100000 in
theorem tw_676 : (Cond.instanceMethod ({ cls := "SeldomOps$Judge", name := "sendOn", desc := "(LSeldomOps$Method;I)Z" } : MethodName)) ∈ xws := xws_in (List.mem_append_right _ (List.mem_of_getElem? (i := 676) rfl)) rfl
set_option maxRecDepth 100000 in
theorem tw_677 : (Cond.code ({ cls := "SeldomOps$Judge", name := "sendOn", desc := "(LSeldomOps$Method;I)Z" } : MethodName) prog_3_method_15_code (5 : Nat) (Option.some FieldType.boolean)) ∈ xws := xws_in (List.mem_append_right _ (List.mem_of_getElem? (i := 677) rfl)) rfl
set_option maxRecDepth 100000 in
theorem tw_678 : (Cond.methodLink "SeldomOps$Judge" (230 : Nat) ({ cls := "SeldomOps$Judge", name := "sendByTable", desc := "(LSeldomOps$Method;LSeldomOps$Table;)Z" } : MethodName)) ∈ xws := xws_in (List.mem_append_right _ (List.mem_of_getElem? (i := 678) rfl)) rfl
set_option maxRecDepth 100000 in
theorem tw_680 : (Cond.instanceMethod ({ cls := "SeldomOps$Judge", name := "sendByTable", desc := "(LSeldomOps$Method;LSeldomOps$Table;)Z" } : MethodName)) ∈ xws := xws_in (List.mem_append_right _ (List.mem_of_getElem? (i := 680) rfl)) rfl
set_option maxRecDepth 100000 in
theorem tw_681 : (Cond.code ({ cls := "SeldomOps$Judge", name := "sendByTable", desc := "(LSeldomOps$Method;LSeldomOps$Table;)Z" } : MethodName) prog_3_method_16_code (4 : Nat) (Option.some FieldType.boolean)) ∈ xws := xws_in (List.mem_append_right _ (List.mem_of_getElem? (i := 681) rfl)) rfl
set_option maxRecDepth 100000 in
theorem tw_682 : (Cond.methodLink "SeldomOps$Judge" (69 : Nat) ({ cls := "SeldomOps$Shapes", name := "leastDue", desc := "()I" } : MethodName)) ∈ xws := xws_in (List.mem_append_right _ (List.mem_of_getElem? (i := 682) rfl)) rfl
set_option maxRecDepth 100000 in
theorem tw_683 : (Cond.instanceMethod ({ cls := "SeldomOps$Shapes", name := "leastDue", desc := "()I" } : MethodName)) ∈ xws := xws_in (List.mem_append_right _ (List.mem_of_getElem? (i := 683) rfl)) rfl
set_option maxRecDepth 100000 in
theorem tw_684 : (Cond.selects "SeldomOps$Shapes" ({ cls := "SeldomOps$Shapes", name := "leastDue", desc := "()I" } : MethodName) ({ cls := "SeldomOps$Shapes", name := "leastDue", desc := "()I" } : MethodName)) ∈ xws := xws_in (List.mem_append_right _ (List.mem_of_getElem? (i := 684) rfl)) rfl
set_option maxRecDepth 100000 in
theorem tw_685 : (Cond.code ({ cls := "SeldomOps$Shapes", name := "leastDue", desc := "()I" } : MethodName) prog_8_method_3_code (2 : Nat) (Option.some FieldType.int)) ∈ xws := xws_in (List.mem_append_right _ (List.mem_of_getElem? (i := 685) rfl)) rfl
set_option maxRecDepth 100000 in
theorem tw_698 : (Cond.methodLink "SeldomOps" (135 : Nat) ({ cls := "SeldomOps$Shapes", name := "tell", desc := "(II)I" } : MethodName)) ∈ xws := xws_in (List.mem_append_right _ (List.mem_of_getElem? (i := 698) rfl)) rfl
set_option maxRecDepth 100000 in
theorem tw_699 : (Cond.instanceMethod ({ cls := "SeldomOps$Shapes", name := "tell", desc := "(II)I" } : MethodName)) ∈ xws := xws_in (List.mem_append_right _ (List.mem_of_getElem? (i := 699) rfl)) rfl
set_option maxRecDepth 100000 in
theorem tw_700 : (Cond.selects "SeldomOps$Shapes" ({ cls := "SeldomOps$Shapes", name := "tell", desc := "(II)I" } : MethodName) ({ cls := "SeldomOps$Shapes", name := "tell", desc := "(II)I" } : MethodName)) ∈ xws := xws_in (List.mem_append_right _ (List.mem_of_getElem? (i := 700) rfl)) rfl
set_option maxRecDepth 100000 in
theorem tw_701 : (Cond.code ({ cls := "SeldomOps$Shapes", name := "tell", desc := "(II)I" } : MethodName) prog_8_method_6_code (3 : Nat) (Option.some FieldType.int)) ∈ xws := xws_in (List.mem_append_right _ (List.mem_of_getElem? (i := 701) rfl)) rfl
set_option maxRecDepth 100000 in
theorem tw_710 : (Cond.methodLink "SeldomOps" (140 : Nat) ({ cls := "SeldomOps$Program", name := "allFaultless", desc := "()Z" } : MethodName)) ∈ xws := xws_in (List.mem_append_right _ (List.mem_of_getElem? (i := 710) rfl)) rfl
set_option maxRecDepth 100000 in
theorem tw_711 : (Cond.instanceMethod ({ cls := "SeldomOps$Program", name := "allFaultless", desc := "()Z" } : MethodName)) ∈ xws := xws_in (List.mem_append_right _ (List.mem_of_getElem? (i := 711) rfl)) rfl
set_option maxRecDepth 100000 in
theorem tw_712 : (Cond.selects "SeldomOps$Program" ({ cls := "SeldomOps$Program", name := "allFaultless", desc := "()Z" } : MethodName) ({ cls := "SeldomOps$Program", name := "allFaultless", desc := "()Z" } : MethodName)) ∈ xws := xws_in (List.mem_append_right _ (List.mem_of_getElem? (i := 712) rfl)) rfl
set_option maxRecDepth 100000 in
theorem tw_713 : (Cond.code ({ cls := "SeldomOps$Program", name := "allFaultless", desc := "()Z" } : MethodName) prog_6_method_9_code (2 : Nat) (Option.some FieldType.boolean)) ∈ xws := xws_in (List.mem_append_right _ (List.mem_of_getElem? (i := 713) rfl)) rfl
set_option maxRecDepth 100000 in
theorem tw_714 : (Cond.methodLink "SeldomOps" (147 : Nat) ({ cls := "SeldomOps$Walker", name := "start", desc := "(ILSeldomOps$Method;[J)V" } : MethodName)) ∈ xws := xws_in (List.mem_append_right _ (List.mem_of_getElem? (i := 714) rfl)) rfl
set_option maxRecDepth 100000 in
theorem tw_715 : (Cond.instanceMethod ({ cls := "SeldomOps$Walker", name := "start", desc := "(ILSeldomOps$Method;[J)V" } : MethodName)) ∈ xws := xws_in (List.mem_append_right _ (List.mem_of_getElem? (i := 715) rfl)) rfl
set_option maxRecDepth 100000 in
theorem tw_716 : (Cond.selects "SeldomOps$Walker" ({ cls := "SeldomOps$Walker", name := "start", desc := "(ILSeldomOps$Method;[J)V" } : MethodName) ({ cls := "SeldomOps$Walker", name := "start", desc := "(ILSeldomOps$Method;[J)V" } : MethodName)) ∈ xws := xws_in (List.mem_append_right _ (List.mem_of_getElem? (i := 716) rfl)) rfl
set_option maxRecDepth 100000 in
theorem tw_717 : (Cond.code ({ cls := "SeldomOps$Walker", name := "start", desc := "(ILSeldomOps$Method;[J)V" } : MethodName) prog_11_method_2_code (6 : Nat) (Option.none : Option FieldType)) ∈ xws := xws_in (List.mem_append_right _ (List.mem_of_getElem? (i := 717) rfl)) rfl
set_option maxRecDepth 100000 in
theorem tw_718 : (Cond.methodLink "SeldomOps$Walker" (69 : Nat) ({ cls := "SeldomOps$Things", name := "clear", desc := "()V" } : MethodName)) ∈ xws := xws_in (List.mem_append_right _ (List.mem_of_getElem? (i := 718) rfl)) rfl
set_option maxRecDepth 100000 in
theorem tw_719 : (Cond.instanceMethod ({ cls := "SeldomOps$Things", name := "clear", desc := "()V" } : MethodName)) ∈ xws := xws_in (List.mem_append_right _ (List.mem_of_getElem? (i := 719) rfl)) rfl
set_option maxRecDepth 100000 in
theorem tw_720 : (Cond.selects "SeldomOps$Things" ({ cls := "SeldomOps$Things", name := "clear", desc := "()V" } : MethodName) ({ cls := "SeldomOps$Things", name := "clear", desc := "()V" } : MethodName)) ∈ xws := xws_in (List.mem_append_right _ (List.mem_of_getElem? (i := 720) rfl)) rfl
set_option maxRecDepth 100000 in
theorem tw_721 : (Cond.code ({ cls := "SeldomOps$Things", name := "clear", desc := "()V" } : MethodName) prog_10_method_2_code (1 : Nat) (Option.none : Option FieldType)) ∈ xws := xws_in (List.mem_append_right _ (List.mem_of_getElem? (i := 721) rfl)) rfl
set_option maxRecDepth 100000 in
theorem tw_722 : (Cond.methodLink "SeldomOps$Walker" (72 : Nat) ({ cls := "SeldomOps$Call", name := "begin", desc := "(ILSeldomOps$Method;)V" } : MethodName)) ∈ xws := xws_in (List.mem_append_right _ (List.mem_of_getElem? (i := 722) rfl)) rfl
set_option maxRecDepth 100000 in
theorem tw_723 : (Cond.instanceMethod ({ cls := "SeldomOps$Call", name := "begin", desc := "(ILSeldomOps$Method;)V" } : MethodName)) ∈ xws := xws_in (List.mem_append_right _ (List.mem_of_getElem? (i := 723) rfl)) rfl
set_option maxRecDepth 100000 in
theorem tw_724 : (Cond.selects "SeldomOps$Call" ({ cls := "SeldomOps$Call", name := "begin", desc := "(ILSeldomOps$Method;)V" } : MethodName) ({ cls := "SeldomOps$Call", name := "begin", desc := "(ILSeldomOps$Method;)V" } : MethodName)) ∈ xws := xws_in (List.mem_append_right _ (List.mem_of_getElem? (i := 724) rfl)) rfl
set_option maxRecDepth 100000 in
theorem tw_725 : (Cond.code ({ cls := "SeldomOps$Call", name := "begin", desc := "(ILSeldomOps$Method;)V" } : MethodName) prog_2_method_2_code (4 : Nat) (Option.none : Option FieldType)) ∈ xws := xws_in (List.mem_append_right _ (List.mem_of_getElem? (i := 725) rfl)) rfl
set_option maxRecDepth 100000 in
theorem tw_726 : (Cond.methodLink "SeldomOps$Call" (43 : Nat) ({ cls := "SeldomOps$Words", name := "clear", desc := "()V" } : MethodName)) ∈ xws := xws_in (List.mem_append_right _ (List.mem_of_getElem? (i := 726) rfl)) rfl
set_option maxRecDepth 100000 in
theorem tw_727 : (Cond.methodLink "SeldomOps$Walker" (84 : Nat) ({ cls := "SeldomOps$Walker", name := "asArgument", desc := "(IJ)J" } : MethodName)) ∈ xws := xws_in (List.mem_append_right _ (List.mem_of_getElem? (i := 727) rfl)) rfl
set_option maxRecDepth 100000 in
theorem tw_728 : (Cond.static ({ cls := "SeldomOps$Walker", name := "asArgument", desc := "(IJ)J" } : MethodName)) ∈ xws := xws_in (List.mem_append_right _ (List.mem_of_getElem? (i := 728) rfl)) rfl
set_option maxRecDepth 100000 in
theorem tw_729 : (Cond.code ({ cls := "SeldomOps$Walker", name := "asArgument", desc := "(IJ)J" } : MethodName) prog_11_method_5_code (3 : Nat) (Option.some FieldType.long)) ∈ xws := xws_in (List.mem_append_right _ (List.mem_of_getElem? (i := 729) rfl)) rfl
set_option maxRecDepth 100000 in
theorem tw_730 : (Cond.constantLong "SeldomOps$Walker" (148 : Nat) (-1 : Int64)) ∈ xws := xws_in (List.mem_append_right _ (List.mem_of_getElem? (i := 730) rfl)) rfl
set_option maxRecDepth 100000 in
theorem tw_732 : (Cond.methodLink "SeldomOps$Walker" (88 : Nat) ({ cls := "SeldomOps$Call", name := "writeLocal", desc := "(IJ)V" } : MethodName)) ∈ xws := xws_in (List.mem_append_right _ (List.mem_of_getElem? (i := 732) rfl)) rfl
set_option maxRecDepth 100000 in
theorem tw_733 : (Cond.instanceMethod ({ cls := "SeldomOps$Call", name := "writeLocal", desc := "(IJ)V" } : MethodName)) ∈ xws := xws_in (List.mem_append_right _ (List.mem_of_getElem? (i := 733) rfl)) rfl
set_option maxRecDepth 100000 in
theorem tw_734 : (Cond.selects "SeldomOps$Call" ({ cls := "SeldomOps$Call", name := "writeLocal", desc := "(IJ)V" } : MethodName) ({ cls := "SeldomOps$Call", name := "writeLocal", desc := "(IJ)V" } : MethodName)) ∈ xws := xws_in (List.mem_append_right _ (List.mem_of_getElem? (i := 734) rfl)) rfl
set_option maxRecDepth 100000 in
theorem tw_735 : (Cond.code ({ cls := "SeldomOps$Call", name := "writeLocal", desc := "(IJ)V" } : MethodName) prog_2_method_4_code (4 : Nat) (Option.none : Option FieldType)) ∈ xws := xws_in (List.mem_append_right _ (List.mem_of_getElem? (i := 735) rfl)) rfl
set_option maxRecDepth 100000 in
theorem tw_738 : (Cond.methodLink "SeldomOps" (151 : Nat) ({ cls := "SeldomOps$Walker", name := "run", desc := "(I)I" } : MethodName)) ∈ xws := xws_in (List.mem_append_right _ (List.mem_of_getElem? (i := 738) rfl)) rfl
set_option maxRecDepth 100000 in
theorem tw_739 : (Cond.instanceMethod ({ cls := "SeldomOps$Walker", name := "run", desc := "(I)I" } : MethodName)) ∈ xws := xws_in (List.mem_append_right _ (List.mem_of_getElem? (i := 739) rfl)) rfl
set_option maxRecDepth 100000 in
theorem tw_740 : (Cond.selects "SeldomOps$Walker" ({ cls := "SeldomOps$Walker", name := "run", desc := "(I)I" } : MethodName) ({ cls := "SeldomOps$Walker", name := "run", desc := "(I)I" } : MethodName)) ∈ xws := xws_in (List.mem_append_right _ (List.mem_of_getElem? (i := 740) rfl)) rfl
set_option maxRecDepth 100000 in
theorem tw_741 : (Cond.code ({ cls := "SeldomOps$Walker", name := "run", desc := "(I)I" } : MethodName) prog_11_method_3_code (5 : Nat) (Option.some FieldType.int)) ∈ xws := xws_in (List.mem_append_right _ (List.mem_of_getElem? (i := 741) rfl)) rfl
set_option maxRecDepth 100000 in
theorem tw_742 : (Cond.methodLink "SeldomOps$Walker" (115 : Nat) ({ cls := "SeldomOps$Walker", name := "perform", desc := "(LSeldomOps$Call;III)I" } : MethodName)) ∈ xws := xws_in (List.mem_append_right _ (List.mem_of_getElem? (i := 742) rfl)) rfl
set_option maxRecDepth 100000 in
theorem tw_744 : (Cond.instanceMethod ({ cls := "SeldomOps$Walker", name := "perform", desc := "(LSeldomOps$Call;III)I" } : MethodName)) ∈ xws := xws_in (List.mem_append_right _ (List.mem_of_getElem? (i := 744) rfl)) rfl
set_option maxRecDepth 100000 in
theorem tw_745 : (Cond.code ({ cls := "SeldomOps$Walker", name := "perform", desc := "(LSeldomOps$Call;III)I" } : MethodName) prog_11_method_6_code (5 : Nat) (Option.some FieldType.int)) ∈ xws := xws_in (List.mem_append_right _ (List.mem_of_getElem? (i := 745) rfl)) rfl
set_option maxRecDepth 100000 in
theorem tw_746 : (Cond.methodLink "SeldomOps$Walker" (154 : Nat) ({ cls := "SeldomOps$Walker", name := "pushFixed", desc := "(LSeldomOps$Words;II)I" } : MethodName)) ∈ xws := xws_in (List.mem_append_right _ (List.mem_of_getElem? (i := 746) rfl)) rfl
set_option maxRecDepth 100000 in
theorem tw_748 : (Cond.instanceMethod ({ cls := "SeldomOps$Walker", name := "pushFixed", desc := "(LSeldomOps$Words;II)I" } : MethodName)) ∈ xws := xws_in (List.mem_append_right _ (List.mem_of_getElem? (i := 748) rfl)) rfl
set_option maxRecDepth 100000 in
theorem tw_749 : (Cond.code ({ cls := "SeldomOps$Walker", name := "pushFixed", desc := "(LSeldomOps$Words;II)I" } : MethodName) prog_11_method_7_code (4 : Nat) (Option.some FieldType.int)) ∈ xws := xws_in (List.mem_append_right _ (List.mem_of_getElem? (i := 749) rfl)) rfl
set_option maxRecDepth 100000 in
theorem tw_750 : (Cond.methodLink "SeldomOps$Walker" (189 : Nat) ({ cls := "SeldomOps$Program", name := "readConstant", desc := "(I)J" } : MethodName)) ∈ xws := xws_in (List.mem_append_right _ (List.mem_of_getElem? (i := 750) rfl)) rfl
set_option maxRecDepth 100000 in
theorem tw_751 : (Cond.instanceMethod ({ cls := "SeldomOps$Program", name := "readConstant", desc := "(I)J" } : MethodName)) ∈ xws := xws_in (List.mem_append_right _ (List.mem_of_getElem? (i := 751) rfl)) rfl
set_option maxRecDepth 100000 in
theorem tw_752 : (Cond.selects "SeldomOps$Program" ({ cls := "SeldomOps$Program", name := "readConstant", desc := "(I)J" } : MethodName) ({ cls := "SeldomOps$Program", name := "readConstant", desc := "(I)J" } : MethodName)) ∈ xws := xws_in (List.mem_append_right _ (List.mem_of_getElem? (i := 752) rfl)) rfl
set_option maxRecDepth 100000 in
theorem tw_753 : (Cond.code ({ cls := "SeldomOps$Program", name := "readConstant", desc := "(I)J" } : MethodName) prog_6_method_4_code (2 : Nat) (Option.some FieldType.long)) ∈ xws := xws_in (List.mem_append_right _ (List.mem_of_getElem? (i := 753) rfl)) rfl
set_option maxRecDepth 100000 in
theorem tw_754 : (Cond.methodLink "SeldomOps$Walker" (195 : Nat) ({ cls := "SeldomOps$Words", name := "pushBits", desc := "(IJ)V" } : MethodName)) ∈ xws := xws_in (List.mem_append_right _ (List.mem_of_getElem? (i := 754) rfl)) rfl
set_option maxRecDepth 100000 in
theorem tw_755 : (Cond.instanceMethod ({ cls := "SeldomOps$Words", name := "pushBits", desc := "(IJ)V" } : MethodName)) ∈ xws := xws_in (List.mem_append_right _ (List.mem_of_getElem? (i := 755) rfl)) rfl
set_option maxRecDepth 100000 in
theorem tw_756 : (Cond.selects "SeldomOps$Words" ({ cls := "SeldomOps$Words", name := "pushBits", desc := "(IJ)V" } : MethodName) ({ cls := "SeldomOps$Words", name := "pushBits", desc := "(IJ)V" } : MethodName)) ∈ xws := xws_in (List.mem_append_right _ (List.mem_of_getElem? (i := 756) rfl)) rfl
set_option maxRecDepth 100000 in
theorem tw_757 : (Cond.code ({ cls := "SeldomOps$Words", name := "pushBits", desc := "(IJ)V" } : MethodName) prog_12_method_6_code (4 : Nat) (Option.none : Option FieldType)) ∈ xws := xws_in (List.mem_append_right _ (List.mem_of_getElem? (i := 757) rfl)) rfl
set_option maxRecDepth 100000 in
theorem tw_759 : (Cond.methodLink "SeldomOps$Walker" (198 : Nat) ({ cls := "SeldomOps$Words", name := "push", desc := "(J)V" } : MethodName)) ∈ xws := xws_in (List.mem_append_right _ (List.mem_of_getElem? (i := 759) rfl)) rfl
set_option maxRecDepth 100000 in
theorem tw_760 : (Cond.methodLink "SeldomOps$Walker" (158 : Nat) ({ cls := "SeldomOps$Walker", name := "useLocal", desc := "(LSeldomOps$Call;III)I" } : MethodName)) ∈ xws := xws_in (List.mem_append_right _ (List.mem_of_getElem? (i := 760) rfl)) rfl
set_option maxRecDepth 100000 in
theorem tw_762 : (Cond.instanceMethod ({ cls := "SeldomOps$Walker", name := "useLocal", desc := "(LSeldomOps$Call;III)I" } : MethodName)) ∈ xws := xws_in (List.mem_append_right _ (List.mem_of_getElem? (i := 762) rfl)) rfl
set_option maxRecDepth 100000 in
theorem tw_763 : (Cond.code ({ cls := "SeldomOps$Walker", name := "useLocal", desc := "(LSeldomOps$Call;III)I" } : MethodName) prog_11_method_8_code (5 : Nat) (Option.some FieldType.int)) ∈ xws := xws_in (List.mem_append_right _ (List.mem_of_getElem? (i := 763) rfl)) rfl
set_option maxRecDepth 100000 in
theorem tw_764 : (Cond.methodLink "SeldomOps$Walker" (202 : Nat) ({ cls := "SeldomOps$Call", name := "readLocal", desc := "(I)J" } : MethodName)) ∈ xws := xws_in (List.mem_append_right _ (List.mem_of_getElem? (i := 764) rfl)) rfl
set_option maxRecDepth 100000 in
theorem tw_765 : (Cond.instanceMethod ({ cls := "SeldomOps$Call", name := "readLocal", desc := "(I)J" } : MethodName)) ∈ xws := xws_in (List.mem_append_right _ (List.mem_of_getElem? (i := 765) rfl)) rfl
set_option maxRecDepth 100000 in
theorem tw_766 : (Cond.selects "SeldomOps$Call" ({ cls := "SeldomOps$Call", name := "readLocal", desc := "(I)J" } : MethodName) ({ cls := "SeldomOps$Call", name := "readLocal", desc := "(I)J" } : MethodName)) ∈ xws := xws_in (List.mem_append_right _ (List.mem_of_getElem? (i := 766) rfl)) rfl
set_option maxRecDepth 100000 in
theorem tw_767 : (Cond.code ({ cls := "SeldomOps$Call", name := "readLocal", desc := "(I)J" } : MethodName) prog_2_method_3_code (2 : Nat) (Option.some FieldType.long)) ∈ xws := xws_in (List.mem_append_right _ (List.mem_of_getElem? (i := 767) rfl)) rfl
set_option maxRecDepth 100000 in
theorem tw_768 : (Cond.methodLink "SeldomOps$Walker" (205 : Nat) ({ cls := "SeldomOps$Words", name := "popBits", desc := "(I)J" } : MethodName)) ∈ xws := xws_in (List.mem_append_right _ (List.mem_of_getElem? (i := 768) rfl)) rfl
set_option maxRecDepth 100000 in
theorem tw_769 : (Cond.instanceMethod ({ cls := "SeldomOps$Words", name := "popBits", desc := "(I)J" } : MethodName)) ∈ xws := xws_in (List.mem_append_right _ (List.mem_of_getElem? (i := 769) rfl)) rfl
set_option maxRecDepth 100000 in
theorem tw_770 : (Cond.selects "SeldomOps$Words" ({ cls := "SeldomOps$Words", name := "popBits", desc := "(I)J" } : MethodName) ({ cls := "SeldomOps$Words", name := "popBits", desc := "(I)J" } : MethodName)) ∈ xws := xws_in (List.mem_append_right _ (List.mem_of_getElem? (i := 770) rfl)) rfl
set_option maxRecDepth 100000 in
theorem tw_771 : (Cond.code ({ cls := "SeldomOps$Words", name := "popBits", desc := "(I)J" } : MethodName) prog_12_method_7_code (2 : Nat) (Option.some FieldType.long)) ∈ xws := xws_in (List.mem_append_right _ (List.mem_of_getElem? (i := 771) rfl)) rfl
set_option maxRecDepth 100000 in
theorem tw_772 : (Cond.methodLink "SeldomOps$Walker" (161 : Nat) ({ cls := "SeldomOps$Words", name := "move", desc := "(I)V" } : MethodName)) ∈ xws := xws_in (List.mem_append_right _ (List.mem_of_getElem? (i := 772) rfl)) rfl
set_option maxRecDepth 100000 in
theorem tw_773 : (Cond.methodLink "SeldomOps$Walker" (165 : Nat) ({ cls := "SeldomOps$Walker", name := "compute", desc := "(LSeldomOps$Words;III)I" } : MethodName)) ∈ xws := xws_in (List.mem_append_right _ (List.mem_of_getElem? (i := 773) rfl)) rfl
set_option maxRecDepth 100000 in
theorem tw_775 : (Cond.instanceMethod ({ cls := "SeldomOps$Walker", name := "compute", desc := "(LSeldomOps$Words;III)I" } : MethodName)) ∈ xws := xws_in (List.mem_append_right _ (List.mem_of_getElem? (i := 775) rfl)) rfl
set_option maxRecDepth 100000 in
theorem tw_776 : (Cond.code ({ cls := "SeldomOps$Walker", name := "compute", desc := "(LSeldomOps$Words;III)I" } : MethodName) prog_11_method_9_code (9 : Nat) (Option.some FieldType.int)) ∈ xws := xws_in (List.mem_append_right _ (List.mem_of_getElem? (i := 776) rfl)) rfl
set_option maxRecDepth 100000 in
theorem tw_777 : (Cond.methodLink "SeldomOps$Walker" (208 : Nat) ({ cls := "SeldomOps$Walker", name := "calculate", desc := "(LSeldomOps$Words;II)I" } : MethodName)) ∈ xws := xws_in (List.mem_append_right _ (List.mem_of_getElem? (i := 777) rfl)) rfl
set_option maxRecDepth 100000 in
theorem tw_779 : (Cond.instanceMethod ({ cls := "SeldomOps$Walker", name := "calculate", desc := "(LSeldomOps$Words;II)I" } : MethodName)) ∈ xws := xws_in (List.mem_append_right _ (List.mem_of_getElem? (i := 779) rfl)) rfl
set_option maxRecDepth 100000 in
theorem tw_780 : (Cond.code ({ cls := "SeldomOps$Walker", name := "calculate", desc := "(LSeldomOps$Words;II)I" } : MethodName) prog_11_method_10_code (8 : Nat) (Option.some FieldType.int)) ∈ xws := xws_in (List.mem_append_right _ (List.mem_of_getElem? (i := 780) rfl)) rfl
set_option maxRecDepth 100000 in
theorem tw_781 : (Cond.methodLink "SeldomOps$Walker" (223 : Nat) ({ cls := "SeldomOps$Numbers", name := "calculateLong", desc := "(IJJ)J" } : MethodName)) ∈ xws := xws_in (List.mem_append_right _ (List.mem_of_getElem? (i := 781) rfl)) rfl
set_option maxRecDepth 100000 in
theorem tw_782 : (Cond.static ({ cls := "SeldomOps$Numbers", name := "calculateLong", desc := "(IJJ)J" } : MethodName)) ∈ xws := xws_in (List.mem_append_right _ (List.mem_of_getElem? (i := 782) rfl)) rfl
set_option maxRecDepth 100000 in
theorem tw_783 : (Cond.code ({ cls := "SeldomOps$Numbers", name := "calculateLong", desc := "(IJJ)J" } : MethodName) prog_5_method_3_code (5 : Nat) (Option.some FieldType.long)) ∈ xws := xws_in (List.mem_append_right _ (List.mem_of_getElem? (i := 783) rfl)) rfl
set_option maxRecDepth 100000 in
theorem tw_784 : (Cond.methodLink "SeldomOps$Walker" (227 : Nat) ({ cls := "SeldomOps$Numbers", name := "calculateInt", desc := "(III)I" } : MethodName)) ∈ xws := xws_in (List.mem_append_right _ (List.mem_of_getElem? (i := 784) rfl)) rfl
set_option maxRecDepth 100000 in
theorem tw_785 : (Cond.static ({ cls := "SeldomOps$Numbers", name := "calculateInt", desc := "(III)I" } : MethodName)) ∈ xws := xws_in (List.mem_append_right _ (List.mem_of_getElem? (i := 785) rfl)) rfl
set_option maxRecDepth 100000 in
theorem tw_786 : (Cond.code ({ cls := "SeldomOps$Numbers", name := "calculateInt", desc := "(III)I" } : MethodName) prog_5_method_2_code (3 : Nat) (Option.some FieldType.int)) ∈ xws := xws_in (List.mem_append_right _ (List.mem_of_getElem? (i := 786) rfl)) rfl
set_option maxRecDepth 100000 in
theorem tw_787 : (Cond.methodLink "SeldomOps$Walker" (211 : Nat) ({ cls := "SeldomOps$Numbers", name := "convert", desc := "(IJ)J" } : MethodName)) ∈ xws := xws_in (List.mem_append_right _ (List.mem_of_getElem? (i := 787) rfl)) rfl
set_option maxRecDepth 100000 in
theorem tw_788 : (Cond.static ({ cls := "SeldomOps$Numbers", name := "convert", desc := "(IJ)J" } : MethodName)) ∈ xws := xws_in (List.mem_append_right _ (List.mem_of_getElem? (i := 788) rfl)) rfl
set_option maxRecDepth 100000 in
theorem tw_789 : (Cond.code ({ cls := "SeldomOps$Numbers", name := "convert", desc := "(IJ)J" } : MethodName) prog_5_method_5_code (3 : Nat) (Option.some FieldType.long)) ∈ xws := xws_in (List.mem_append_right _ (List.mem_of_getElem? (i := 789) rfl)) rfl
set_option maxRecDepth 100000 in
theorem tw_790 : (Cond.methodLink "SeldomOps$Numbers" (9 : Nat) ({ cls := "SeldomOps$Numbers", name := "narrow", desc := "(II)I" } : MethodName)) ∈ xws := xws_in (List.mem_append_right _ (List.mem_of_getElem? (i := 790) rfl)) rfl
set_option maxRecDepth 100000 in
theorem tw_791 : (Cond.static ({ cls := "SeldomOps$Numbers", name := "narrow", desc := "(II)I" } : MethodName)) ∈ xws := xws_in (List.mem_append_right _ (List.mem_of_getElem? (i := 791) rfl)) rfl
set_option maxRecDepth 100000 in
theorem tw_792 : (Cond.code ({ cls := "SeldomOps$Numbers", name := "narrow", desc := "(II)I" } : MethodName) prog_5_method_4_code (2 : Nat) (Option.some FieldType.int)) ∈ xws := xws_in (List.mem_append_right _ (List.mem_of_getElem? (i := 792) rfl)) rfl
set_option maxRecDepth 100000 in
theorem tw_794 : (Cond.methodLink "SeldomOps$Walker" (219 : Nat) ({ cls := "SeldomOps$Numbers", name := "compareBits", desc := "(IJJ)I" } : MethodName)) ∈ xws := xws_in (List.mem_append_right _ (List.mem_of_getElem? (i := 794) rfl)) rfl
set_option maxRecDepth 100000 in
theorem tw_795 : (Cond.static ({ cls := "SeldomOps$Numbers", name := "compareBits", desc := "(IJJ)I" } : MethodName)) ∈ xws := xws_in (List.mem_append_right _ (List.mem_of_getElem? (i := 795) rfl)) rfl
set_option maxRecDepth 100000 in
theorem tw_796 : (Cond.code ({ cls := "SeldomOps$Numbers", name := "compareBits", desc := "(IJJ)I" } : MethodName) prog_5_method_6_code (14 : Nat) (Option.some FieldType.int)) ∈ xws := xws_in (List.mem_append_right _ (List.mem_of_getElem? (i := 796) rfl)) rfl
set_option maxRecDepth 100000 in
theorem tw_797 : (Cond.methodLink "SeldomOps$Numbers" (15 : Nat) ({ cls := "SeldomOps$Numbers", name := "order", desc := "(JJ)I" } : MethodName)) ∈ xws := xws_in (List.mem_append_right _ (List.mem_of_getElem? (i := 797) rfl)) rfl
set_option maxRecDepth 100000 in
theorem tw_798 : (Cond.static ({ cls := "SeldomOps$Numbers", name := "order", desc := "(JJ)I" } : MethodName)) ∈ xws := xws_in (List.mem_append_right _ (List.mem_of_getElem? (i := 798) rfl)) rfl
set_option maxRecDepth 100000 in
theorem tw_799 : (Cond.code ({ cls := "SeldomOps$Numbers", name := "order", desc := "(JJ)I" } : MethodName) prog_5_method_8_code (4 : Nat) (Option.some FieldType.int)) ∈ xws := xws_in (List.mem_append_right _ (List.mem_of_getElem? (i := 799) rfl)) rfl
set_option maxRecDepth 100000 in
theorem tw_800 : (Cond.constantLong "SeldomOps$Numbers" (19 : Nat) (9223372036854775807 : Int64)) ∈ xws := xws_in (List.mem_append_right _ (List.mem_of_getElem? (i := 800) rfl)) rfl
set_option maxRecDepth 100000 in
theorem tw_801 : (Cond.constantLong "SeldomOps$Numbers" (21 : Nat) (2147483647 : Int64)) ∈ xws := xws_in (List.mem_append_right _ (List.mem_of_getElem? (i := 801) rfl)) rfl
set_option maxRecDepth 100000 in
theorem tw_802 : (Cond.constantLong "SeldomOps$Numbers" (23 : Nat) (9218868437227405312 : Int64)) ∈ xws := xws_in (List.mem_append_right _ (List.mem_of_getElem? (i := 802) rfl)) rfl
set_option maxRecDepth 100000 in
theorem tw_803 : (Cond.constantLong "SeldomOps$Numbers" (25 : Nat) (2139095040 : Int64)) ∈ xws := xws_in (List.mem_append_right _ (List.mem_of_getElem? (i := 803) rfl)) rfl
set_option maxRecDepth 100000 in
theorem tw_804 : (Cond.methodLink "SeldomOps$Walker" (169 : Nat) ({ cls := "SeldomOps$Walker", name := "jump", desc := "(LSeldomOps$Call;III)I" } : MethodName)) ∈ xws := xws_in (List.mem_append_right _ (List.mem_of_getElem? (i := 804) rfl)) rfl
set_option maxRecDepth 100000 in
theorem tw_806 : (Cond.instanceMethod ({ cls := "SeldomOps$Walker", name := "jump", desc := "(LSeldomOps$Call;III)I" } : MethodName)) ∈ xws := xws_in (List.mem_append_right _ (List.mem_of_getElem? (i := 806) rfl)) rfl
set_option maxRecDepth 100000 in
theorem tw_807 : (Cond.code ({ cls := "SeldomOps$Walker", name := "jump", desc := "(LSeldomOps$Call;III)I" } : MethodName) prog_11_method_11_code (7 : Nat) (Option.some FieldType.int)) ∈ xws := xws_in (List.mem_append_right _ (List.mem_of_getElem? (i := 807) rfl)) rfl
set_option maxRecDepth 100000 in
theorem tw_808 : (Cond.methodLink "SeldomOps$Walker" (231 : Nat) ({ cls := "SeldomOps$Words", name := "popInt", desc := "()I" } : MethodName)) ∈ xws := xws_in (List.mem_append_right _ (List.mem_of_getElem? (i := 808) rfl)) rfl
set_option maxRecDepth 100000 in
theorem tw_809 : (Cond.instanceMethod ({ cls := "SeldomOps$Words", name := "popInt", desc := "()I" } : MethodName)) ∈ xws := xws_in (List.mem_append_right _ (List.mem_of_getElem? (i := 809) rfl)) rfl
set_option maxRecDepth 100000 in
theorem tw_810 : (Cond.selects "SeldomOps$Words" ({ cls := "SeldomOps$Words", name := "popInt", desc := "()I" } : MethodName) ({ cls := "SeldomOps$Words", name := "popInt", desc := "()I" } : MethodName)) ∈ xws := xws_in (List.mem_append_right _ (List.mem_of_getElem? (i := 810) rfl)) rfl
set_option maxRecDepth 100000 in
theorem tw_811 : (Cond.code ({ cls := "SeldomOps$Words", name := "popInt", desc := "()I" } : MethodName) prog_12_method_8_code (1 : Nat) (Option.some FieldType.int)) ∈ xws := xws_in (List.mem_append_right _ (List.mem_of_getElem? (i := 811) rfl)) rfl
set_option maxRecDepth 100000 in
theorem tw_812 : (Cond.methodLink "SeldomOps$Walker" (235 : Nat) ({ cls := "SeldomOps$Program", name := "findTable", desc := "(I)LSeldomOps$Table;" } : MethodName)) ∈ xws := xws_in (List.mem_append_right _ (List.mem_of_getElem? (i := 812) rfl)) rfl
set_option maxRecDepth 100000 in
theorem tw_813 : (Cond.methodLink "SeldomOps$Walker" (239 : Nat) ({ cls := "SeldomOps$Table", name := "targetFor", desc := "(I)I" } : MethodName)) ∈ xws := xws_in (List.mem_append_right _ (List.mem_of_getElem? (i := 813) rfl)) rfl
set_option maxRecDepth 100000 in
theorem tw_814 : (Cond.instanceMethod ({ cls := "SeldomOps$Table", name := "targetFor", desc := "(I)I" } : MethodName)) ∈ xws := xws_in (List.mem_append_right _ (List.mem_of_getElem? (i := 814) rfl)) rfl
set_option maxRecDepth 100000 in
theorem tw_815 : (Cond.selects "SeldomOps$Table" ({ cls := "SeldomOps$Table", name := "targetFor", desc := "(I)I" } : MethodName) ({ cls := "SeldomOps$Table", name := "targetFor", desc := "(I)I" } : MethodName)) ∈ xws := xws_in (List.mem_append_right _ (List.mem_of_getElem? (i := 815) rfl)) rfl
set_option maxRecDepth 100000 in
theorem tw_816 : (Cond.code ({ cls := "SeldomOps$Table", name := "targetFor", desc := "(I)I" } : MethodName) prog_9_method_4_code (3 : Nat) (Option.some FieldType.int)) ∈ xws := xws_in (List.mem_append_right _ (List.mem_of_getElem? (i := 816) rfl)) rfl
set_option maxRecDepth 100000 in
theorem tw_817 : (Cond.methodLink "SeldomOps$Walker" (244 : Nat) ({ cls := "SeldomOps$Numbers", name := "passes", desc := "(II)Z" } : MethodName)) ∈ xws := xws_in (List.mem_append_right _ (List.mem_of_getElem? (i := 817) rfl)) rfl
set_option maxRecDepth 100000 in
theorem tw_818 : (Cond.static ({ cls := "SeldomOps$Numbers", name := "passes", desc := "(II)Z" } : MethodName)) ∈ xws := xws_in (List.mem_append_right _ (List.mem_of_getElem? (i := 818) rfl)) rfl
set_option maxRecDepth 100000 in
theorem tw_819 : (Cond.code ({ cls := "SeldomOps$Numbers", name := "passes", desc := "(II)Z" } : MethodName) prog_5_method_7_code (2 : Nat) (Option.some FieldType.boolean)) ∈ xws := xws_in (List.mem_append_right _ (List.mem_of_getElem? (i := 819) rfl)) rfl
set_option maxRecDepth 100000 in
theorem tw_820 : (Cond.methodLink "SeldomOps$Walker" (172 : Nat) ({ cls := "SeldomOps$Walker", name := "useArray", desc := "(LSeldomOps$Words;III)I" } : MethodName)) ∈ xws := xws_in (List.mem_append_right _ (List.mem_of_getElem? (i := 820) rfl)) rfl
set_option maxRecDepth 100000 in
theorem tw_822 : (Cond.instanceMethod ({ cls := "SeldomOps$Walker", name := "useArray", desc := "(LSeldomOps$Words;III)I" } : MethodName)) ∈ xws := xws_in (List.mem_append_right _ (List.mem_of_getElem? (i := 822) rfl)) rfl
set_option maxRecDepth 100000 in
theorem tw_823 : (Cond.code ({ cls := "SeldomOps$Walker", name := "useArray", desc := "(LSeldomOps$Words;III)I" } : MethodName) prog_11_method_12_code (6 : Nat) (Option.some FieldType.int)) ∈ xws := xws_in (List.mem_append_right _ (List.mem_of_getElem? (i := 823) rfl)) rfl
set_option maxRecDepth 100000 in
theorem tw_824 : (Cond.methodLink "SeldomOps$Walker" (247 : Nat) ({ cls := "SeldomOps$Walker", name := "newArray", desc := "(LSeldomOps$Words;II)I" } : MethodName)) ∈ xws := xws_in (List.mem_append_right _ (List.mem_of_getElem? (i := 824) rfl)) rfl
set_option maxRecDepth 100000 in
theorem tw_826 : (Cond.instanceMethod ({ cls := "SeldomOps$Walker", name := "newArray", desc := "(LSeldomOps$Words;II)I" } : MethodName)) ∈ xws := xws_in (List.mem_append_right _ (List.mem_of_getElem? (i := 826) rfl)) rfl
set_option maxRecDepth 100000 in
theorem tw_827 : (Cond.code ({ cls := "SeldomOps$Walker", name := "newArray", desc := "(LSeldomOps$Words;II)I" } : MethodName) prog_11_method_13_code (6 : Nat) (Option.some FieldType.int)) ∈ xws := xws_in (List.mem_append_right _ (List.mem_of_getElem? (i := 827) rfl)) rfl
set_option maxRecDepth 100000 in
theorem tw_828 : (Cond.methodLink "SeldomOps$Walker" (264 : Nat) ({ cls := "java/lang/Math", name := "min", desc := "(II)I" } : MethodName)) ∈ xws := xws_in (List.mem_append_right _ (List.mem_of_getElem? (i := 828) rfl)) rfl
set_option maxRecDepth 100000 in
theorem tw_829 : (Cond.static ({ cls := "java/lang/Math", name := "min", desc := "(II)I" } : MethodName)) ∈ xws := xws_in (List.mem_append_right _ (List.mem_of_getElem? (i := 829) rfl)) rfl
set_option maxRecDepth 100000 in
theorem tw_830 : (Cond.code ({ cls := "java/lang/Math", name := "min", desc := "(II)I" } : MethodName) prog_15_method_69_code (2 : Nat) (Option.some FieldType.int)) ∈ xws := xws_in (List.mem_append_right _ (List.mem_of_getElem? (i := 830) rfl)) rfl
set_option maxRecDepth 100000 in
theorem tw_831 : (Cond.methodLink "SeldomOps$Walker" (267 : Nat) ({ cls := "SeldomOps$Things", name := "haveRoom", desc := "([II)Z" } : MethodName)) ∈ xws := xws_in (List.mem_append_right _ (List.mem_of_getElem? (i := 831) rfl)) rfl
set_option maxRecDepth 100000 in
theorem tw_832 : (Cond.instanceMethod ({ cls := "SeldomOps$Things", name := "haveRoom", desc := "([II)Z" } : MethodName)) ∈ xws := xws_in (List.mem_append_right _ (List.mem_of_getElem? (i := 832) rfl)) rfl
set_option maxRecDepth 100000 in
theorem tw_833 : (Cond.selects "SeldomOps$Things" ({ cls := "SeldomOps$Things", name := "haveRoom", desc := "([II)Z" } : MethodName) ({ cls := "SeldomOps$Things", name := "haveRoom", desc := "([II)Z" } : MethodName)) ∈ xws := xws_in (List.mem_append_right _ (List.mem_of_getElem? (i := 833) rfl)) rfl
set_option maxRecDepth 100000 in
theorem tw_834 : (Cond.code ({ cls := "SeldomOps$Things", name := "haveRoom", desc := "([II)Z" } : MethodName) prog_10_method_13_code (8 : Nat) (Option.some FieldType.boolean)) ∈ xws := xws_in (List.mem_append_right _ (List.mem_of_getElem? (i := 834) rfl)) rfl
set_option maxRecDepth 100000 in
theorem tw_835 : (Cond.constantLong "SeldomOps$Things" (51 : Nat) (60 : Int64)) ∈ xws := xws_in (List.mem_append_right _ (List.mem_of_getElem? (i := 835) rfl)) rfl
set_option maxRecDepth 100000 in
theorem tw_837 : (Cond.static ({ cls := "SeldomOps$Things", name := "makeRow", desc := "(LSeldomOps$Things;I[III)I" } : MethodName)) ∈ xws := xws_in (List.mem_append_right _ (List.mem_of_getElem? (i := 837) rfl)) rfl
set_option maxRecDepth 100000 in
theorem tw_838 : (Cond.code ({ cls := "SeldomOps$Things", name := "makeRow", desc := "(LSeldomOps$Things;I[III)I" } : MethodName) prog_10_method_14_code (8 : Nat) (Option.some FieldType.int)) ∈ xws := xws_in (List.mem_append_right _ (List.mem_of_getElem? (i := 838) rfl)) rfl
set_option maxRecDepth 100000 in
theorem tw_839 : (Cond.methodLink "SeldomOps$Things" (47 : Nat) ({ cls := "SeldomOps$Things", name := "add", desc := "(II)I" } : MethodName)) ∈ xws := xws_in (List.mem_append_right _ (List.mem_of_getElem? (i := 839) rfl)) rfl
set_option maxRecDepth 100000 in
theorem tw_841 : (Cond.instanceMethod ({ cls := "SeldomOps$Things", name := "add", desc := "(II)I" } : MethodName)) ∈ xws := xws_in (List.mem_append_right _ (List.mem_of_getElem? (i := 841) rfl)) rfl
set_option maxRecDepth 100000 in
theorem tw_842 : (Cond.code ({ cls := "SeldomOps$Things", name := "add", desc := "(II)I" } : MethodName) prog_10_method_15_code (4 : Nat) (Option.some FieldType.int)) ∈ xws := xws_in (List.mem_append_right _ (List.mem_of_getElem? (i := 842) rfl)) rfl
set_option maxRecDepth 100000 in
theorem tw_843 : (Cond.methodLink "SeldomOps$Things" (40 : Nat) ({ cls := "SeldomOps$Things", name := "cellSort", desc := "(I)I" } : MethodName)) ∈ xws := xws_in (List.mem_append_right _ (List.mem_of_getElem? (i := 843) rfl)) rfl
set_option maxRecDepth 100000 in
theorem tw_844 : (Cond.static ({ cls := "SeldomOps$Things", name := "cellSort", desc := "(I)I" } : MethodName)) ∈ xws := xws_in (List.mem_append_right _ (List.mem_of_getElem? (i := 844) rfl)) rfl
set_option maxRecDepth 100000 in
theorem tw_845 : (Cond.code ({ cls := "SeldomOps$Things", name := "cellSort", desc := "(I)I" } : MethodName) prog_10_method_16_code (1 : Nat) (Option.some FieldType.int)) ∈ xws := xws_in (List.mem_append_right _ (List.mem_of_getElem? (i := 845) rfl)) rfl
set_option maxRecDepth 100000 in
theorem tw_846 : (Cond.methodLink "SeldomOps$Things" (53 : Nat) ({ cls := "SeldomOps$Things", name := "makeRow", desc := "(LSeldomOps$Things;I[III)I" } : MethodName)) ∈ xws := xws_in (List.mem_append_right _ (List.mem_of_getElem? (i := 846) rfl)) rfl
set_option maxRecDepth 100000 in
theorem tw_847 : (Cond.methodLink "SeldomOps$Things" (57 : Nat) ({ cls := "SeldomOps$Things", name := "write", desc := "(IIJ)V" } : MethodName)) ∈ xws := xws_in (List.mem_append_right _ (List.mem_of_getElem? (i := 847) rfl)) rfl
set_option maxRecDepth 100000 in
theorem tw_848 : (Cond.instanceMethod ({ cls := "SeldomOps$Things", name := "write", desc := "(IIJ)V" } : MethodName)) ∈ xws := xws_in (List.mem_append_right _ (List.mem_of_getElem? (i := 848) rfl)) rfl
set_option maxRecDepth 100000 in
theorem tw_849 : (Cond.selects "SeldomOps$Things" ({ cls := "SeldomOps$Things", name := "write", desc := "(IIJ)V" } : MethodName) ({ cls := "SeldomOps$Things", name := "write", desc := "(IIJ)V" } : MethodName)) ∈ xws := xws_in (List.mem_append_right _ (List.mem_of_getElem? (i := 849) rfl)) rfl
set_option maxRecDepth 100000 in
theorem tw_850 : (Cond.code ({ cls := "SeldomOps$Things", name := "write", desc := "(IIJ)V" } : MethodName) prog_10_method_9_code (5 : Nat) (Option.none : Option FieldType)) ∈ xws := xws_in (List.mem_append_right _ (List.mem_of_getElem? (i := 850) rfl)) rfl
set_option maxRecDepth 100000 in
theorem tw_851 : (Cond.methodLink "SeldomOps$Things" (33 : Nat) ({ cls := "SeldomOps$Things", name := "hasCell", desc := "(II)Z" } : MethodName)) ∈ xws := xws_in (List.mem_append_right _ (List.mem_of_getElem? (i := 851) rfl)) rfl
set_option maxRecDepth 100000 in
theorem tw_852 : (Cond.instanceMethod ({ cls := "SeldomOps$Things", name := "hasCell", desc := "(II)Z" } : MethodName)) ∈ xws := xws_in (List.mem_append_right _ (List.mem_of_getElem? (i := 852) rfl)) rfl
set_option maxRecDepth 100000 in
theorem tw_853 : (Cond.selects "SeldomOps$Things" ({ cls := "SeldomOps$Things", name := "hasCell", desc := "(II)Z" } : MethodName) ({ cls := "SeldomOps$Things", name := "hasCell", desc := "(II)Z" } : MethodName)) ∈ xws := xws_in (List.mem_append_right _ (List.mem_of_getElem? (i := 853) rfl)) rfl
set_option maxRecDepth 100000 in
theorem tw_854 : (Cond.code ({ cls := "SeldomOps$Things", name := "hasCell", desc := "(II)Z" } : MethodName) prog_10_method_7_code (3 : Nat) (Option.some FieldType.boolean)) ∈ xws := xws_in (List.mem_append_right _ (List.mem_of_getElem? (i := 854) rfl)) rfl
set_option maxRecDepth 100000 in
theorem tw_855 : (Cond.methodLink "SeldomOps$Walker" (250 : Nat) ({ cls := "SeldomOps$Walker", name := "getCell", desc := "(LSeldomOps$Words;I)I" } : MethodName)) ∈ xws := xws_in (List.mem_append_right _ (List.mem_of_getElem? (i := 855) rfl)) rfl
set_option maxRecDepth 100000 in
theorem tw_857 : (Cond.instanceMethod ({ cls := "SeldomOps$Walker", name := "getCell", desc := "(LSeldomOps$Words;I)I" } : MethodName)) ∈ xws := xws_in (List.mem_append_right _ (List.mem_of_getElem? (i := 857) rfl)) rfl
set_option maxRecDepth 100000 in
theorem tw_858 : (Cond.code ({ cls := "SeldomOps$Walker", name := "getCell", desc := "(LSeldomOps$Words;I)I" } : MethodName) prog_11_method_14_code (6 : Nat) (Option.some FieldType.int)) ∈ xws := xws_in (List.mem_append_right _ (List.mem_of_getElem? (i := 858) rfl)) rfl
set_option maxRecDepth 100000 in
theorem tw_859 : (Cond.methodLink "SeldomOps$Walker" (275 : Nat) ({ cls := "SeldomOps$Things", name := "refuseCell", desc := "(III)I" } : MethodName)) ∈ xws := xws_in (List.mem_append_right _ (List.mem_of_getElem? (i := 859) rfl)) rfl
set_option maxRecDepth 100000 in
theorem tw_860 : (Cond.instanceMethod ({ cls := "SeldomOps$Things", name := "refuseCell", desc := "(III)I" } : MethodName)) ∈ xws := xws_in (List.mem_append_right _ (List.mem_of_getElem? (i := 860) rfl)) rfl
set_option maxRecDepth 100000 in
theorem tw_861 : (Cond.selects "SeldomOps$Things" ({ cls := "SeldomOps$Things", name := "refuseCell", desc := "(III)I" } : MethodName) ({ cls := "SeldomOps$Things", name := "refuseCell", desc := "(III)I" } : MethodName)) ∈ xws := xws_in (List.mem_append_right _ (List.mem_of_getElem? (i := 861) rfl)) rfl
set_option maxRecDepth 100000 in
theorem tw_862 : (Cond.code ({ cls := "SeldomOps$Things", name := "refuseCell", desc := "(III)I" } : MethodName) prog_10_method_10_code (4 : Nat) (Option.some FieldType.int)) ∈ xws := xws_in (List.mem_append_right _ (List.mem_of_getElem? (i := 862) rfl)) rfl
set_option maxRecDepth 100000 in
theorem tw_863 : (Cond.methodLink "SeldomOps$Things" (36 : Nat) ({ cls := "SeldomOps$Things", name := "isArray", desc := "(I)Z" } : MethodName)) ∈ xws := xws_in (List.mem_append_right _ (List.mem_of_getElem? (i := 863) rfl)) rfl
set_option maxRecDepth 100000 in
theorem tw_864 : (Cond.instanceMethod ({ cls := "SeldomOps$Things", name := "isArray", desc := "(I)Z" } : MethodName)) ∈ xws := xws_in (List.mem_append_right _ (List.mem_of_getElem? (i := 864) rfl)) rfl
set_option maxRecDepth 100000 in
theorem tw_865 : (Cond.selects "SeldomOps$Things" ({ cls := "SeldomOps$Things", name := "isArray", desc := "(I)Z" } : MethodName) ({ cls := "SeldomOps$Things", name := "isArray", desc := "(I)Z" } : MethodName)) ∈ xws := xws_in (List.mem_append_right _ (List.mem_of_getElem? (i := 865) rfl)) rfl
set_option maxRecDepth 100000 in
theorem tw_866 : (Cond.code ({ cls := "SeldomOps$Things", name := "isArray", desc := "(I)Z" } : MethodName) prog_10_method_4_code (2 : Nat) (Option.some FieldType.boolean)) ∈ xws := xws_in (List.mem_append_right _ (List.mem_of_getElem? (i := 866) rfl)) rfl
set_option maxRecDepth 100000 in
theorem tw_869 : (Cond.methodLink "SeldomOps$Walker" (281 : Nat) ({ cls := "SeldomOps$Things", name := "read", desc := "(II)J" } : MethodName)) ∈ xws := xws_in (List.mem_append_right _ (List.mem_of_getElem? (i := 869) rfl)) rfl
set_option maxRecDepth 100000 in
theorem tw_870 : (Cond.instanceMethod ({ cls := "SeldomOps$Things", name := "read", desc := "(II)J" } : MethodName)) ∈ xws := xws_in (List.mem_append_right _ (List.mem_of_getElem? (i := 870) rfl)) rfl
set_option maxRecDepth 100000 in
theorem tw_871 : (Cond.selects "SeldomOps$Things" ({ cls := "SeldomOps$Things", name := "read", desc := "(II)J" } : MethodName) ({ cls := "SeldomOps$Things", name := "read", desc := "(II)J" } : MethodName)) ∈ xws := xws_in (List.mem_append_right _ (List.mem_of_getElem? (i := 871) rfl)) rfl
set_option maxRecDepth 100000 in
theorem tw_872 : (Cond.code ({ cls := "SeldomOps$Things", name := "read", desc := "(II)J" } : MethodName) prog_10_method_8_code (3 : Nat) (Option.some FieldType.long)) ∈ xws := xws_in (List.mem_append_right _ (List.mem_of_getElem? (i := 872) rfl)) rfl
set_option maxRecDepth 100000 in
theorem tw_873 : (Cond.methodLink "SeldomOps$Walker" (254 : Nat) ({ cls := "SeldomOps$Walker", name := "putCell", desc := "(LSeldomOps$Words;I)I" } : MethodName)) ∈ xws := xws_in (List.mem_append_right _ (List.mem_of_getElem? (i := 873) rfl)) rfl
set_option maxRecDepth 100000 in
theorem tw_875 : (Cond.instanceMethod ({ cls := "SeldomOps$Walker", name := "putCell", desc := "(LSeldomOps$Words;I)I" } : MethodName)) ∈ xws := xws_in (List.mem_append_right _ (List.mem_of_getElem? (i := 875) rfl)) rfl
set_option maxRecDepth 100000 in
theorem tw_876 : (Cond.code ({ cls := "SeldomOps$Walker", name := "putCell", desc := "(LSeldomOps$Words;I)I" } : MethodName) prog_11_method_15_code (8 : Nat) (Option.some FieldType.int)) ∈ xws := xws_in (List.mem_append_right _ (List.mem_of_getElem? (i := 876) rfl)) rfl
set_option maxRecDepth 100000 in
theorem tw_877 : (Cond.methodLink "SeldomOps$Walker" (285 : Nat) ({ cls := "SeldomOps$Things", name := "mayStore", desc := "(II)Z" } : MethodName)) ∈ xws := xws_in (List.mem_append_right _ (List.mem_of_getElem? (i := 877) rfl)) rfl
set_option maxRecDepth 100000 in
theorem tw_878 : (Cond.instanceMethod ({ cls := "SeldomOps$Things", name := "mayStore", desc := "(II)Z" } : MethodName)) ∈ xws := xws_in (List.mem_append_right _ (List.mem_of_getElem? (i := 878) rfl)) rfl
set_option maxRecDepth 100000 in
theorem tw_879 : (Cond.selects "SeldomOps$Things" ({ cls := "SeldomOps$Things", name := "mayStore", desc := "(II)Z" } : MethodName) ({ cls := "SeldomOps$Things", name := "mayStore", desc := "(II)Z" } : MethodName)) ∈ xws := xws_in (List.mem_append_right _ (List.mem_of_getElem? (i := 879) rfl)) rfl
set_option maxRecDepth 100000 in
theorem tw_880 : (Cond.code ({ cls := "SeldomOps$Things", name := "mayStore", desc := "(II)Z" } : MethodName) prog_10_method_11_code (3 : Nat) (Option.some FieldType.boolean)) ∈ xws := xws_in (List.mem_append_right _ (List.mem_of_getElem? (i := 880) rfl)) rfl
set_option maxRecDepth 100000 in
theorem tw_881 : (Cond.methodLink "SeldomOps$Things" (44 : Nat) ({ cls := "SeldomOps$Things", name := "isOfType", desc := "(II)Z" } : MethodName)) ∈ xws := xws_in (List.mem_append_right _ (List.mem_of_getElem? (i := 881) rfl)) rfl
set_option maxRecDepth 100000 in
theorem tw_882 : (Cond.instanceMethod ({ cls := "SeldomOps$Things", name := "isOfType", desc := "(II)Z" } : MethodName)) ∈ xws := xws_in (List.mem_append_right _ (List.mem_of_getElem? (i := 882) rfl)) rfl
set_option maxRecDepth 100000 in
theorem tw_883 : (Cond.selects "SeldomOps$Things" ({ cls := "SeldomOps$Things", name := "isOfType", desc := "(II)Z" } : MethodName) ({ cls := "SeldomOps$Things", name := "isOfType", desc := "(II)Z" } : MethodName)) ∈ xws := xws_in (List.mem_append_right _ (List.mem_of_getElem? (i := 883) rfl)) rfl
set_option maxRecDepth 100000 in
theorem tw_884 : (Cond.code ({ cls := "SeldomOps$Things", name := "isOfType", desc := "(II)Z" } : MethodName) prog_10_method_5_code (3 : Nat) (Option.some FieldType.boolean)) ∈ xws := xws_in (List.mem_append_right _ (List.mem_of_getElem? (i := 884) rfl)) rfl
set_option maxRecDepth 100000 in
theorem tw_885 : (Cond.methodLink "SeldomOps$Walker" (288 : Nat) ({ cls := "SeldomOps$Numbers", name := "narrow", desc := "(II)I" } : MethodName)) ∈ xws := xws_in (List.mem_append_right _ (List.mem_of_getElem? (i := 885) rfl)) rfl
set_option maxRecDepth 100000 in
theorem tw_886 : (Cond.methodLink "SeldomOps$Walker" (291 : Nat) ({ cls := "SeldomOps$Things", name := "write", desc := "(IIJ)V" } : MethodName)) ∈ xws := xws_in (List.mem_append_right _ (List.mem_of_getElem? (i := 886) rfl)) rfl
set_option maxRecDepth 100000 in
theorem tw_887 : (Cond.methodLink "SeldomOps$Walker" (257 : Nat) ({ cls := "SeldomOps$Walker", name := "countCells", desc := "(LSeldomOps$Words;)I" } : MethodName)) ∈ xws := xws_in (List.mem_append_right _ (List.mem_of_getElem? (i := 887) rfl)) rfl
set_option maxRecDepth 100000 in
theorem tw_889 : (Cond.instanceMethod ({ cls := "SeldomOps$Walker", name := "countCells", desc := "(LSeldomOps$Words;)I" } : MethodName)) ∈ xws := xws_in (List.mem_append_right _ (List.mem_of_getElem? (i := 889) rfl)) rfl
set_option maxRecDepth 100000 in
theorem tw_890 : (Cond.code ({ cls := "SeldomOps$Walker", name := "countCells", desc := "(LSeldomOps$Words;)I" } : MethodName) prog_11_method_16_code (3 : Nat) (Option.some FieldType.int)) ∈ xws := xws_in (List.mem_append_right _ (List.mem_of_getElem? (i := 890) rfl)) rfl
set_option maxRecDepth 100000 in
theorem tw_891 : (Cond.methodLink "SeldomOps$Walker" (295 : Nat) ({ cls := "SeldomOps$Things", name := "isArray", desc := "(I)Z" } : MethodName)) ∈ xws := xws_in (List.mem_append_right _ (List.mem_of_getElem? (i := 891) rfl)) rfl
set_option maxRecDepth 100000 in
theorem tw_892 : (Cond.methodLink "SeldomOps$Walker" (261 : Nat) ({ cls := "SeldomOps$Things", name := "isOfType", desc := "(II)Z" } : MethodName)) ∈ xws := xws_in (List.mem_append_right _ (List.mem_of_getElem? (i := 892) rfl)) rfl
set_option maxRecDepth 100000 in
theorem tw_893 : (Cond.methodLink "SeldomOps$Walker" (175 : Nat) ({ cls := "SeldomOps$Walker", name := "useFailure", desc := "(LSeldomOps$Words;II)I" } : MethodName)) ∈ xws := xws_in (List.mem_append_right _ (List.mem_of_getElem? (i := 893) rfl)) rfl
set_option maxRecDepth 100000 in
theorem tw_895 : (Cond.instanceMethod ({ cls := "SeldomOps$Walker", name := "useFailure", desc := "(LSeldomOps$Words;II)I" } : MethodName)) ∈ xws := xws_in (List.mem_append_right _ (List.mem_of_getElem? (i := 895) rfl)) rfl
set_option maxRecDepth 100000 in
theorem tw_896 : (Cond.code ({ cls := "SeldomOps$Walker", name := "useFailure", desc := "(LSeldomOps$Words;II)I" } : MethodName) prog_11_method_17_code (5 : Nat) (Option.some FieldType.int)) ∈ xws := xws_in (List.mem_append_right _ (List.mem_of_getElem? (i := 896) rfl)) rfl
set_option maxRecDepth 100000 in
theorem tw_897 : (Cond.methodLink "SeldomOps$Walker" (301 : Nat) ({ cls := "SeldomOps$Things", name := "makeFailure", desc := "(I)I" } : MethodName)) ∈ xws := xws_in (List.mem_append_right _ (List.mem_of_getElem? (i := 897) rfl)) rfl
set_option maxRecDepth 100000 in
theorem tw_898 : (Cond.instanceMethod ({ cls := "SeldomOps$Things", name := "makeFailure", desc := "(I)I" } : MethodName)) ∈ xws := xws_in (List.mem_append_right _ (List.mem_of_getElem? (i := 898) rfl)) rfl
set_option maxRecDepth 100000 in
theorem tw_899 : (Cond.selects "SeldomOps$Things" ({ cls := "SeldomOps$Things", name := "makeFailure", desc := "(I)I" } : MethodName) ({ cls := "SeldomOps$Things", name := "makeFailure", desc := "(I)I" } : MethodName)) ∈ xws := xws_in (List.mem_append_right _ (List.mem_of_getElem? (i := 899) rfl)) rfl
set_option maxRecDepth 100000 in
theorem tw_900 : (Cond.code ({ cls := "SeldomOps$Things", name := "makeFailure", desc := "(I)I" } : MethodName) prog_10_method_12_code (2 : Nat) (Option.some FieldType.int)) ∈ xws := xws_in (List.mem_append_right _ (List.mem_of_getElem? (i := 900) rfl)) rfl
set_option maxRecDepth 100000 in
theorem tw_901 : (Cond.methodLink "SeldomOps$Walker" (304 : Nat) ({ cls := "SeldomOps$Things", name := "failureNumber", desc := "(I)I" } : MethodName)) ∈ xws := xws_in (List.mem_append_right _ (List.mem_of_getElem? (i := 901) rfl)) rfl
set_option maxRecDepth 100000 in
theorem tw_902 : (Cond.instanceMethod ({ cls := "SeldomOps$Things", name := "failureNumber", desc := "(I)I" } : MethodName)) ∈ xws := xws_in (List.mem_append_right _ (List.mem_of_getElem? (i := 902) rfl)) rfl
set_option maxRecDepth 100000 in
theorem tw_903 : (Cond.selects "SeldomOps$Things" ({ cls := "SeldomOps$Things", name := "failureNumber", desc := "(I)I" } : MethodName) ({ cls := "SeldomOps$Things", name := "failureNumber", desc := "(I)I" } : MethodName)) ∈ xws := xws_in (List.mem_append_right _ (List.mem_of_getElem? (i := 903) rfl)) rfl
set_option maxRecDepth 100000 in
theorem tw_904 : (Cond.code ({ cls := "SeldomOps$Things", name := "failureNumber", desc := "(I)I" } : MethodName) prog_10_method_6_code (2 : Nat) (Option.some FieldType.int)) ∈ xws := xws_in (List.mem_append_right _ (List.mem_of_getElem? (i := 904) rfl)) rfl
set_option maxRecDepth 100000 in
theorem tw_905 : (Cond.methodLink "SeldomOps$Walker" (178 : Nat) ({ cls := "SeldomOps$Walker", name := "useMonitor", desc := "(LSeldomOps$Call;I)I" } : MethodName)) ∈ xws := xws_in (List.mem_append_right _ (List.mem_of_getElem? (i := 905) rfl)) rfl
set_option maxRecDepth 100000 in
theorem tw_907 : (Cond.instanceMethod ({ cls := "SeldomOps$Walker", name := "useMonitor", desc := "(LSeldomOps$Call;I)I" } : MethodName)) ∈ xws := xws_in (List.mem_append_right _ (List.mem_of_getElem? (i := 907) rfl)) rfl
set_option maxRecDepth 100000 in
theorem tw_908 : (Cond.code ({ cls := "SeldomOps$Walker", name := "useMonitor", desc := "(LSeldomOps$Call;I)I" } : MethodName) prog_11_method_18_code (5 : Nat) (Option.some FieldType.int)) ∈ xws := xws_in (List.mem_append_right _ (List.mem_of_getElem? (i := 908) rfl)) rfl
set_option maxRecDepth 100000 in
theorem tw_910 : (Cond.methodLink "SeldomOps$Walker" (182 : Nat) ({ cls := "SeldomOps$Walker", name := "leave", desc := "(LSeldomOps$Call;)I" } : MethodName)) ∈ xws := xws_in (List.mem_append_right _ (List.mem_of_getElem? (i := 910) rfl)) rfl
set_option maxRecDepth 100000 in
theorem tw_912 : (Cond.instanceMethod ({ cls := "SeldomOps$Walker", name := "leave", desc := "(LSeldomOps$Call;)I" } : MethodName)) ∈ xws := xws_in (List.mem_append_right _ (List.mem_of_getElem? (i := 912) rfl)) rfl
set_option maxRecDepth 100000 in
theorem tw_913 : (Cond.code ({ cls := "SeldomOps$Walker", name := "leave", desc := "(LSeldomOps$Call;)I" } : MethodName) prog_11_method_19_code (6 : Nat) (Option.some FieldType.int)) ∈ xws := xws_in (List.mem_append_right _ (List.mem_of_getElem? (i := 913) rfl)) rfl
set_option maxRecDepth 100000 in
theorem tw_914 : (Cond.methodLink "SeldomOps$Walker" (186 : Nat) ({ cls := "SeldomOps$Walker", name := "enter", desc := "(LSeldomOps$Call;I)I" } : MethodName)) ∈ xws := xws_in (List.mem_append_right _ (List.mem_of_getElem? (i := 914) rfl)) rfl
set_option maxRecDepth 100000 in
theorem tw_916 : (Cond.instanceMethod ({ cls := "SeldomOps$Walker", name := "enter", desc := "(LSeldomOps$Call;I)I" } : MethodName)) ∈ xws := xws_in (List.mem_append_right _ (List.mem_of_getElem? (i := 916) rfl)) rfl
set_option maxRecDepth 100000 in
theorem tw_917 : (Cond.code ({ cls := "SeldomOps$Walker", name := "enter", desc := "(LSeldomOps$Call;I)I" } : MethodName) prog_11_method_20_code (7 : Nat) (Option.some FieldType.int)) ∈ xws := xws_in (List.mem_append_right _ (List.mem_of_getElem? (i := 917) rfl)) rfl
set_option maxRecDepth 100000 in
theorem tw_918 : (Cond.methodLink "SeldomOps$Walker" (317 : Nat) ({ cls := "SeldomOps$Program", name := "findMethod", desc := "(I)LSeldomOps$Method;" } : MethodName)) ∈ xws := xws_in (List.mem_append_right _ (List.mem_of_getElem? (i := 918) rfl)) rfl
set_option maxRecDepth 100000 in
theorem tw_919 : (Cond.methodLink "SeldomOps$Walker" (122 : Nat) ({ cls := "SeldomOps$Walker", name := "raise", desc := "(III)V" } : MethodName)) ∈ xws := xws_in (List.mem_append_right _ (List.mem_of_getElem? (i := 919) rfl)) rfl
set_option maxRecDepth 100000 in
theorem tw_921 : (Cond.instanceMethod ({ cls := "SeldomOps$Walker", name := "raise", desc := "(III)V" } : MethodName)) ∈ xws := xws_in (List.mem_append_right _ (List.mem_of_getElem? (i := 921) rfl)) rfl
set_option maxRecDepth 100000 in
theorem tw_922 : (Cond.code ({ cls := "SeldomOps$Walker", name := "raise", desc := "(III)V" } : MethodName) prog_11_method_21_code (7 : Nat) (Option.none : Option FieldType)) ∈ xws := xws_in (List.mem_append_right _ (List.mem_of_getElem? (i := 922) rfl)) rfl
set_option maxRecDepth 100000 in
theorem tw_923 : (Cond.methodLink "SeldomOps$Walker" (324 : Nat) ({ cls := "SeldomOps$Method", name := "catcher", desc := "(II)I" } : MethodName)) ∈ xws := xws_in (List.mem_append_right _ (List.mem_of_getElem? (i := 923) rfl)) rfl
set_option maxRecDepth 100000 in
theorem tw_924 : (Cond.instanceMethod ({ cls := "SeldomOps$Method", name := "catcher", desc := "(II)I" } : MethodName)) ∈ xws := xws_in (List.mem_append_right _ (List.mem_of_getElem? (i := 924) rfl)) rfl
set_option maxRecDepth 100000 in
theorem tw_925 : (Cond.selects "SeldomOps$Method" ({ cls := "SeldomOps$Method", name := "catcher", desc := "(II)I" } : MethodName) ({ cls := "SeldomOps$Method", name := "catcher", desc := "(II)I" } : MethodName)) ∈ xws := xws_in (List.mem_append_right _ (List.mem_of_getElem? (i := 925) rfl)) rfl
set_option maxRecDepth 100000 in
theorem tw_926 : (Cond.code ({ cls := "SeldomOps$Method", name := "catcher", desc := "(II)I" } : MethodName) prog_4_method_6_code (4 : Nat) (Option.some FieldType.int)) ∈ xws := xws_in (List.mem_append_right _ (List.mem_of_getElem? (i := 926) rfl)) rfl
set_option maxRecDepth 100000 in
theorem tw_927 : (Cond.methodLink "SeldomOps$Method" (70 : Nat) ({ cls := "SeldomOps$Method", name := "covers", desc := "(II)Z" } : MethodName)) ∈ xws := xws_in (List.mem_append_right _ (List.mem_of_getElem? (i := 927) rfl)) rfl
set_option maxRecDepth 100000 in
theorem tw_928 : (Cond.methodLink "SeldomOps$Walker" (327 : Nat) ({ cls := "SeldomOps$Words", name := "clear", desc := "()V" } : MethodName)) ∈ xws := xws_in (List.mem_append_right _ (List.mem_of_getElem? (i := 928) rfl)) rfl
set_option maxRecDepth 100000 in
theorem tw_929 : (Cond.methodLink "SeldomOps$Walker" (328 : Nat) ({ cls := "SeldomOps$Walker", name := "letGoAll", desc := "(LSeldomOps$Call;)V" } : MethodName)) ∈ xws := xws_in (List.mem_append_right _ (List.mem_of_getElem? (i := 929) rfl)) rfl
set_option maxRecDepth 100000 in
theorem tw_931 : (Cond.instanceMethod ({ cls := "SeldomOps$Walker", name := "letGoAll", desc := "(LSeldomOps$Call;)V" } : MethodName)) ∈ xws := xws_in (List.mem_append_right _ (List.mem_of_getElem? (i := 931) rfl)) rfl
set_option maxRecDepth 100000 in
theorem tw_932 : (Cond.code ({ cls := "SeldomOps$Walker", name := "letGoAll", desc := "(LSeldomOps$Call;)V" } : MethodName) prog_11_method_22_code (3 : Nat) (Option.none : Option FieldType)) ∈ xws := xws_in (List.mem_append_right _ (List.mem_of_getElem? (i := 932) rfl)) rfl
set_option maxRecDepth 100000 in
theorem tw_933 : (Cond.methodLink "SeldomOps$Walker" (135 : Nat) ({ cls := "java/lang/Math", name := "max", desc := "(II)I" } : MethodName)) ∈ xws := xws_in (List.mem_append_right _ (List.mem_of_getElem? (i := 933) rfl)) rfl
set_option maxRecDepth 100000 in
theorem tw_942 : (Cond.methodLink "SeldomOps" (158 : Nat) ({ cls := "SeldomOps$Walker", name := "report", desc := "(I)I" } : MethodName)) ∈ xws := xws_in (List.mem_append_right _ (List.mem_of_getElem? (i := 942) rfl)) rfl
set_option maxRecDepth 100000 in
theorem tw_943 : (Cond.instanceMethod ({ cls := "SeldomOps$Walker", name := "report", desc := "(I)I" } : MethodName)) ∈ xws := xws_in (List.mem_append_right _ (List.mem_of_getElem? (i := 943) rfl)) rfl
set_option maxRecDepth 100000 in
theorem tw_944 : (Cond.selects "SeldomOps$Walker" ({ cls := "SeldomOps$Walker", name := "report", desc := "(I)I" } : MethodName) ({ cls := "SeldomOps$Walker", name := "report", desc := "(I)I" } : MethodName)) ∈ xws := xws_in (List.mem_append_right _ (List.mem_of_getElem? (i := 944) rfl)) rfl
set_option maxRecDepth 100000 in
theorem tw_945 : (Cond.code ({ cls := "SeldomOps$Walker", name := "report", desc := "(I)I" } : MethodName) prog_11_method_4_code (2 : Nat) (Option.some FieldType.int)) ∈ xws := xws_in (List.mem_append_right _ (List.mem_of_getElem? (i := 945) rfl)) rfl
set_option maxRecDepth 100000 in
theorem tw_950 : (Cond.methodLink "SeldomOps" (165 : Nat) ({ cls := "SeldomOps$Things", name := "describe", desc := "(II)I" } : MethodName)) ∈ xws := xws_in (List.mem_append_right _ (List.mem_of_getElem? (i := 950) rfl)) rfl
set_option maxRecDepth 100000 in
theorem tw_951 : (Cond.instanceMethod ({ cls := "SeldomOps$Things", name := "describe", desc := "(II)I" } : MethodName)) ∈ xws := xws_in (List.mem_append_right _ (List.mem_of_getElem? (i := 951) rfl)) rfl
set_option maxRecDepth 100000 in
theorem tw_952 : (Cond.selects "SeldomOps$Things" ({ cls := "SeldomOps$Things", name := "describe", desc := "(II)I" } : MethodName) ({ cls := "SeldomOps$Things", name := "describe", desc := "(II)I" } : MethodName)) ∈ xws := xws_in (List.mem_append_right _ (List.mem_of_getElem? (i := 952) rfl)) rfl
set_option maxRecDepth 100000 in
theorem tw_953 : (Cond.code ({ cls := "SeldomOps$Things", name := "describe", desc := "(II)I" } : MethodName) prog_10_method_3_code (3 : Nat) (Option.some FieldType.int)) ∈ xws := xws_in (List.mem_append_right _ (List.mem_of_getElem? (i := 953) rfl)) rfl
set_option maxRecDepth 100000 in
theorem tw_958 : (Cond.methodLink "SeldomOps" (170 : Nat) ({ cls := "SeldomOps$Things", name := "hasCell", desc := "(II)Z" } : MethodName)) ∈ xws := xws_in (List.mem_append_right _ (List.mem_of_getElem? (i := 958) rfl)) rfl
set_option maxRecDepth 100000 in
theorem tw_959 : (Cond.methodLink "SeldomOps" (173 : Nat) ({ cls := "SeldomOps$Things", name := "read", desc := "(II)J" } : MethodName)) ∈ xws := xws_in (List.mem_append_right _ (List.mem_of_getElem? (i := 959) rfl)) rfl
set_option maxRecDepth 100000 in
theorem tw_960 : (Cond.constantLong "SeldomOps" (177 : Nat) (-2 : Int64)) ∈ xws := xws_in (List.mem_append_right _ (List.mem_of_getElem? (i := 960) rfl)) rfl
set_option maxRecDepth 100000 in
theorem tw_966 : (Cond.methodLink "SeldomOpsModel" (1 : Nat) ({ cls := "java/lang/Object", name := "<init>", desc := "()V" } : MethodName)) ∈ xws := xws_in (List.mem_append_right _ (List.mem_of_getElem? (i := 966) rfl)) rfl
set_option maxRecDepth 100000 in
theorem tw_967 : (Cond.fieldLink "SeldomOpsModel" (148 : Nat) "SeldomOpsModel" "methods" "I") ∈ xws := xws_in (List.mem_append_right _ (List.mem_of_getElem? (i := 967) rfl)) rfl
set_option maxRecDepth 100000 in
theorem tw_968 : (Cond.fieldLink "SeldomOpsModel" (7 : Nat) "SeldomOpsModel" "results" "[I") ∈ xws := xws_in (List.mem_append_right _ (List.mem_of_getElem? (i := 968) rfl)) rfl
set_option maxRecDepth 100000 in
theorem tw_969 : (Cond.fieldLink "SeldomOpsModel" (13 : Nat) "SeldomOpsModel" "argMany" "[I") ∈ xws := xws_in (List.mem_append_right _ (List.mem_of_getElem? (i := 969) rfl)) rfl
set_option maxRecDepth 100000 in
theorem tw_970 : (Cond.fieldLink "SeldomOpsModel" (16 : Nat) "SeldomOpsModel" "argWords" "[I") ∈ xws := xws_in (List.mem_append_right _ (List.mem_of_getElem? (i := 970) rfl)) rfl
set_option maxRecDepth 100000 in
theorem tw_971 : (Cond.fieldLink "SeldomOpsModel" (19 : Nat) "SeldomOpsModel" "argKinds" "[I") ∈ xws := xws_in (List.mem_append_right _ (List.mem_of_getElem? (i := 971) rfl)) rfl
set_option maxRecDepth 100000 in
theorem tw_972 : (Cond.fieldLink "SeldomOpsModel" (22 : Nat) "SeldomOpsModel" "opMany" "[I") ∈ xws := xws_in (List.mem_append_right _ (List.mem_of_getElem? (i := 972) rfl)) rfl
set_option maxRecDepth 100000 in
theorem tw_973 : (Cond.fieldLink "SeldomOpsModel" (25 : Nat) "SeldomOpsModel" "ops" "[I") ∈ xws := xws_in (List.mem_append_right _ (List.mem_of_getElem? (i := 973) rfl)) rfl
set_option maxRecDepth 100000 in
theorem tw_974 : (Cond.fieldLink "SeldomOpsModel" (28 : Nat) "SeldomOpsModel" "opA" "[I") ∈ xws := xws_in (List.mem_append_right _ (List.mem_of_getElem? (i := 974) rfl)) rfl
set_option maxRecDepth 100000 in
theorem tw_975 : (Cond.fieldLink "SeldomOpsModel" (31 : Nat) "SeldomOpsModel" "opB" "[I") ∈ xws := xws_in (List.mem_append_right _ (List.mem_of_getElem? (i := 975) rfl)) rfl
set_option maxRecDepth 100000 in
theorem tw_976 : (Cond.fieldLink "SeldomOpsModel" (34 : Nat) "SeldomOpsModel" "handlerMany" "[I") ∈ xws := xws_in (List.mem_append_right _ (List.mem_of_getElem? (i := 976) rfl)) rfl
set_option maxRecDepth 100000 in
theorem tw_977 : (Cond.fieldLink "SeldomOpsModel" (37 : Nat) "SeldomOpsModel" "from" "[I") ∈ xws := xws_in (List.mem_append_right _ (List.mem_of_getElem? (i := 977) rfl)) rfl
set_option maxRecDepth 100000 in
theorem tw_978 : (Cond.fieldLink "SeldomOpsModel" (40 : Nat) "SeldomOpsModel" "upTo" "[I") ∈ xws := xws_in (List.mem_append_right _ (List.mem_of_getElem? (i := 978) rfl)) rfl
set_option maxRecDepth 100000 in
theorem tw_979 : (Cond.fieldLink "SeldomOpsModel" (43 : Nat) "SeldomOpsModel" "target" "[I") ∈ xws := xws_in (List.mem_append_right _ (List.mem_of_getElem? (i := 979) rfl)) rfl
set_option maxRecDepth 100000 in
theorem tw_980 : (Cond.fieldLink "SeldomOpsModel" (46 : Nat) "SeldomOpsModel" "number" "[I") ∈ xws := xws_in (List.mem_append_right _ (List.mem_of_getElem? (i := 980) rfl)) rfl
set_option maxRecDepth 100000 in
theorem tw_981 : (Cond.fieldLink "SeldomOpsModel" (49 : Nat) "SeldomOpsModel" "isGood" "[Z") ∈ xws := xws_in (List.mem_append_right _ (List.mem_of_getElem? (i := 981) rfl)) rfl
set_option maxRecDepth 100000 in
theorem tw_982 : (Cond.fieldLink "SeldomOpsModel" (184 : Nat) "SeldomOpsModel" "constants" "I") ∈ xws := xws_in (List.mem_append_right _ (List.mem_of_getElem? (i := 982) rfl)) rfl
set_option maxRecDepth 100000 in
theorem tw_983 : (Cond.fieldLink "SeldomOpsModel" (53 : Nat) "SeldomOpsModel" "constant" "[J") ∈ xws := xws_in (List.mem_append_right _ (List.mem_of_getElem? (i := 983) rfl)) rfl
set_option maxRecDepth 100000 in
theorem tw_984 : (Cond.fieldLink "SeldomOpsModel" (187 : Nat) "SeldomOpsModel" "tables" "I") ∈ xws := xws_in (List.mem_append_right _ (List.mem_of_getElem? (i := 984) rfl)) rfl
set_option maxRecDepth 100000 in
theorem tw_985 : (Cond.fieldLink "SeldomOpsModel" (57 : Nat) "SeldomOpsModel" "isSparse" "[Z") ∈ xws := xws_in (List.mem_append_right _ (List.mem_of_getElem? (i := 985) rfl)) rfl
set_option maxRecDepth 100000 in
theorem tw_986 : (Cond.fieldLink "SeldomOpsModel" (60 : Nat) "SeldomOpsModel" "low" "[I") ∈ xws := xws_in (List.mem_append_right _ (List.mem_of_getElem? (i := 986) rfl)) rfl
set_option maxRecDepth 100000 in
theorem tw_987 : (Cond.fieldLink "SeldomOpsModel" (63 : Nat) "SeldomOpsModel" "other" "[I") ∈ xws := xws_in (List.mem_append_right _ (List.mem_of_getElem? (i := 987) rfl)) rfl
set_option maxRecDepth 100000 in
theorem tw_988 : (Cond.fieldLink "SeldomOpsModel" (66 : Nat) "SeldomOpsModel" "entryMany" "[I") ∈ xws := xws_in (List.mem_append_right _ (List.mem_of_getElem? (i := 988) rfl)) rfl
set_option maxRecDepth 100000 in
theorem tw_989 : (Cond.fieldLink "SeldomOpsModel" (69 : Nat) "SeldomOpsModel" "entryKey" "[I") ∈ xws := xws_in (List.mem_append_right _ (List.mem_of_getElem? (i := 989) rfl)) rfl
set_option maxRecDepth 100000 in
theorem tw_990 : (Cond.fieldLink "SeldomOpsModel" (72 : Nat) "SeldomOpsModel" "entryTarget" "[I") ∈ xws := xws_in (List.mem_append_right _ (List.mem_of_getElem? (i := 990) rfl)) rfl
set_option maxRecDepth 100000 in
theorem tw_991 : (Cond.fieldLink "SeldomOpsModel" (75 : Nat) "SeldomOpsModel" "hasShape" "[Z") ∈ xws := xws_in (List.mem_append_right _ (List.mem_of_getElem? (i := 991) rfl)) rfl
set_option maxRecDepth 100000 in
theorem tw_992 : (Cond.fieldLink "SeldomOpsModel" (78 : Nat) "SeldomOpsModel" "waits" "[Z") ∈ xws := xws_in (List.mem_append_right _ (List.mem_of_getElem? (i := 992) rfl)) rfl
set_option maxRecDepth 100000 in
theorem tw_993 : (Cond.fieldLink "SeldomOpsModel" (81 : Nat) "SeldomOpsModel" "depth" "[I") ∈ xws := xws_in (List.mem_append_right _ (List.mem_of_getElem? (i := 993) rfl)) rfl
set_option maxRecDepth 100000 in
theorem tw_994 : (Cond.fieldLink "SeldomOpsModel" (84 : Nat) "SeldomOpsModel" "shapeStack" "[I") ∈ xws := xws_in (List.mem_append_right _ (List.mem_of_getElem? (i := 994) rfl)) rfl
set_option maxRecDepth 100000 in
theorem tw_995 : (Cond.fieldLink "SeldomOpsModel" (87 : Nat) "SeldomOpsModel" "shapeLocal" "[I") ∈ xws := xws_in (List.mem_append_right _ (List.mem_of_getElem? (i := 995) rfl)) rfl
set_option maxRecDepth 100000 in
theorem tw_996 : (Cond.fieldLink "SeldomOpsModel" (212 : Nat) "SeldomOpsModel" "sp" "I") ∈ xws := xws_in (List.mem_append_right _ (List.mem_of_getElem? (i := 996) rfl)) rfl
set_option maxRecDepth 100000 in
theorem tw_997 : (Cond.fieldLink "SeldomOpsModel" (90 : Nat) "SeldomOpsModel" "stack" "[I") ∈ xws := xws_in (List.mem_append_right _ (List.mem_of_getElem? (i := 997) rfl)) rfl
set_option maxRecDepth 100000 in
theorem tw_998 : (Cond.fieldLink "SeldomOpsModel" (93 : Nat) "SeldomOpsModel" "local" "[I") ∈ xws := xws_in (List.mem_append_right _ (List.mem_of_getElem? (i := 998) rfl)) rfl
set_option maxRecDepth 100000 in
theorem tw_999 : (Cond.fieldLink "SeldomOpsModel" (96 : Nat) "SeldomOpsModel" "faultMethod" "I") ∈ xws := xws_in (List.mem_append_right _ (List.mem_of_getElem? (i := 999) rfl)) rfl
set_option maxRecDepth 100000 in
theorem tw_1000 : (Cond.fieldLink "SeldomOpsModel" (100 : Nat) "SeldomOpsModel" "faultOp" "I") ∈ xws := xws_in (List.mem_append_right _ (List.mem_of_getElem? (i := 1000) rfl)) rfl
set_option maxRecDepth 100000 in
theorem tw_1001 : (Cond.fieldLink "SeldomOpsModel" (190 : Nat) "SeldomOpsModel" "givenMany" "I") ∈ xws := xws_in (List.mem_append_right _ (List.mem_of_getElem? (i := 1001) rfl)) rfl
set_option maxRecDepth 100000 in
theorem tw_1002 : (Cond.fieldLink "SeldomOpsModel" (103 : Nat) "SeldomOpsModel" "given" "[J") ∈ xws := xws_in (List.mem_append_right _ (List.mem_of_getElem? (i := 1002) rfl)) rfl
set_option maxRecDepth 100000 in
theorem tw_1003 : (Cond.fieldLink "SeldomOpsModel" (106 : Nat) "SeldomOpsModel" "aheadLocal" "[I") ∈ xws := xws_in (List.mem_append_right _ (List.mem_of_getElem? (i := 1003) rfl)) rfl
set_option maxRecDepth 100000 in
theorem tw_1004 : (Cond.fieldLink "SeldomOpsModel" (272 : Nat) "SeldomOpsModel" "behindSp" "I") ∈ xws := xws_in (List.mem_append_right _ (List.mem_of_getElem? (i := 1004) rfl)) rfl
set_option maxRecDepth 100000 in
theorem tw_1005 : (Cond.fieldLink "SeldomOpsModel" (109 : Nat) "SeldomOpsModel" "behindStack" "[I") ∈ xws := xws_in (List.mem_append_right _ (List.mem_of_getElem? (i := 1005) rfl)) rfl
set_option maxRecDepth 100000 in
theorem tw_1006 : (Cond.fieldLink "SeldomOpsModel" (112 : Nat) "SeldomOpsModel" "behindLocal" "[I") ∈ xws := xws_in (List.mem_append_right _ (List.mem_of_getElem? (i := 1006) rfl)) rfl
set_option maxRecDepth 100000 in
theorem tw_1007 : (Cond.fieldLink "SeldomOpsModel" (296 : Nat) "SeldomOpsModel" "things" "I") ∈ xws := xws_in (List.mem_append_right _ (List.mem_of_getElem? (i := 1007) rfl)) rfl
set_option maxRecDepth 100000 in
theorem tw_1008 : (Cond.fieldLink "SeldomOpsModel" (115 : Nat) "SeldomOpsModel" "thingType" "[I") ∈ xws := xws_in (List.mem_append_right _ (List.mem_of_getElem? (i := 1008) rfl)) rfl
set_option maxRecDepth 100000 in
theorem tw_1009 : (Cond.fieldLink "SeldomOpsModel" (118 : Nat) "SeldomOpsModel" "thingMany" "[I") ∈ xws := xws_in (List.mem_append_right _ (List.mem_of_getElem? (i := 1009) rfl)) rfl
set_option maxRecDepth 100000 in
theorem tw_1010 : (Cond.fieldLink "SeldomOpsModel" (121 : Nat) "SeldomOpsModel" "thingHeld" "[I") ∈ xws := xws_in (List.mem_append_right _ (List.mem_of_getElem? (i := 1010) rfl)) rfl
set_option maxRecDepth 100000 in
theorem tw_1011 : (Cond.fieldLink "SeldomOpsModel" (124 : Nat) "SeldomOpsModel" "thingAt" "[I") ∈ xws := xws_in (List.mem_append_right _ (List.mem_of_getElem? (i := 1011) rfl)) rfl
set_option maxRecDepth 100000 in
theorem tw_1012 : (Cond.fieldLink "SeldomOpsModel" (127 : Nat) "SeldomOpsModel" "cells" "[J") ∈ xws := xws_in (List.mem_append_right _ (List.mem_of_getElem? (i := 1012) rfl)) rfl
set_option maxRecDepth 100000 in
theorem tw_1013 : (Cond.fieldLink "SeldomOpsModel" (299 : Nat) "SeldomOpsModel" "cellsUsed" "I") ∈ xws := xws_in (List.mem_append_right _ (List.mem_of_getElem? (i := 1013) rfl)) rfl
set_option maxRecDepth 100000 in
theorem tw_1014 : (Cond.fieldLink "SeldomOpsModel" (284 : Nat) "SeldomOpsModel" "calls" "I") ∈ xws := xws_in (List.mem_append_right _ (List.mem_of_getElem? (i := 1014) rfl)) rfl
set_option maxRecDepth 100000 in
theorem tw_1015 : (Cond.fieldLink "SeldomOpsModel" (130 : Nat) "SeldomOpsModel" "callMethod" "[I") ∈ xws := xws_in (List.mem_append_right _ (List.mem_of_getElem? (i := 1015) rfl)) rfl
set_option maxRecDepth 100000 in
theorem tw_1016 : (Cond.fieldLink "SeldomOpsModel" (133 : Nat) "SeldomOpsModel" "callOp" "[I") ∈ xws := xws_in (List.mem_append_right _ (List.mem_of_getElem? (i := 1016) rfl)) rfl
set_option maxRecDepth 100000 in
theorem tw_1017 : (Cond.fieldLink "SeldomOpsModel" (136 : Nat) "SeldomOpsModel" "callSp" "[I") ∈ xws := xws_in (List.mem_append_right _ (List.mem_of_getElem? (i := 1017) rfl)) rfl
set_option maxRecDepth 100000 in
theorem tw_1018 : (Cond.fieldLink "SeldomOpsModel" (139 : Nat) "SeldomOpsModel" "callStack" "[J") ∈ xws := xws_in (List.mem_append_right _ (List.mem_of_getElem? (i := 1018) rfl)) rfl
set_option maxRecDepth 100000 in
theorem tw_1019 : (Cond.fieldLink "SeldomOpsModel" (142 : Nat) "SeldomOpsModel" "callLocal" "[J") ∈ xws := xws_in (List.mem_append_right _ (List.mem_of_getElem? (i := 1019) rfl)) rfl
set_option maxRecDepth 100000 in
theorem tw_1020 : (Cond.fieldLink "SeldomOpsModel" (145 : Nat) "SeldomOpsModel" "callHeld" "[I") ∈ xws := xws_in (List.mem_append_right _ (List.mem_of_getElem? (i := 1020) rfl)) rfl
set_option maxRecDepth 100000 in
theorem tw_1021 : (Cond.fieldLink "SeldomOpsModel" (292 : Nat) "SeldomOpsModel" "wasWalked" "Z") ∈ xws := xws_in (List.mem_append_right _ (List.mem_of_getElem? (i := 1021) rfl)) rfl
set_option maxRecDepth 100000 in
theorem tw_1022 : (Cond.fieldLink "SeldomOpsModel" (323 : Nat) "SeldomOpsModel" "value" "J") ∈ xws := xws_in (List.mem_append_right _ (List.mem_of_getElem? (i := 1022) rfl)) rfl
set_option maxRecDepth 100000 in
theorem tw_1023 : (Cond.fieldLink "SeldomOpsModel" (302 : Nat) "SeldomOpsModel" "failure" "I") ∈ xws := xws_in (List.mem_append_right _ (List.mem_of_getElem? (i := 1023) rfl)) rfl
set_option maxRecDepth 100000 in
theorem tw_1024 : (Cond.fieldLink "SeldomOpsModel" (305 : Nat) "SeldomOpsModel" "failedOp" "I") ∈ xws := xws_in (List.mem_append_right _ (List.mem_of_getElem? (i := 1024) rfl)) rfl
set_option maxRecDepth 100000 in
theorem tw_1025 : (Cond.fieldLink "SeldomOpsModel" (308 : Nat) "SeldomOpsModel" "failedMethod" "I") ∈ xws := xws_in (List.mem_append_right _ (List.mem_of_getElem? (i := 1025) rfl)) rfl
set_option maxRecDepth 100000 in
theorem tw_1026 : (Cond.fieldLink "SeldomOpsModel" (311 : Nat) "SeldomOpsModel" "steps" "I") ∈ xws := xws_in (List.mem_append_right _ (List.mem_of_getElem? (i := 1026) rfl)) rfl
set_option maxRecDepth 100000 in
theorem tw_1027 : (Cond.fieldLink "SeldomOpsModel" (287 : Nat) "SeldomOpsModel" "callsMade" "I") ∈ xws := xws_in (List.mem_append_right _ (List.mem_of_getElem? (i := 1027) rfl)) rfl
set_option maxRecDepth 100000 in
theorem tw_1028 : (Cond.fieldLink "SeldomOpsModel" (314 : Nat) "SeldomOpsModel" "mostWords" "I") ∈ xws := xws_in (List.mem_append_right _ (List.mem_of_getElem? (i := 1028) rfl)) rfl
set_option maxRecDepth 100000 in
theorem tw_1029 : (Cond.fieldLink "SeldomOpsModel" (317 : Nat) "SeldomOpsModel" "caught" "I") ∈ xws := xws_in (List.mem_append_right _ (List.mem_of_getElem? (i := 1029) rfl)) rfl
set_option maxRecDepth 100000 in
theorem tw_1030 : (Cond.fieldLink "SeldomOpsModel" (320 : Nat) "SeldomOpsModel" "underWay" "I") ∈ xws := xws_in (List.mem_append_right _ (List.mem_of_getElem? (i := 1030) rfl)) rfl
set_option maxRecDepth 100000 in
theorem tw_1031 : (Cond.fieldLink "SeldomOpsModel" (330 : Nat) "SeldomOpsModel" "fails" "I") ∈ xws := xws_in (List.mem_append_right _ (List.mem_of_getElem? (i := 1031) rfl)) rfl
set_option maxRecDepth 100000 in
theorem tw_1032 : (Cond.fieldLink "SeldomOpsModel" (333 : Nat) "SeldomOpsModel" "failThing" "I") ∈ xws := xws_in (List.mem_append_right _ (List.mem_of_getElem? (i := 1032) rfl)) rfl
set_option maxRecDepth 100000 in
theorem tw_1033 : (Cond.fieldLink "SeldomOpsModel" (363 : Nat) "SeldomOpsModel" "goal" "I") ∈ xws := xws_in (List.mem_append_right _ (List.mem_of_getElem? (i := 1033) rfl)) rfl
set_option maxRecDepth 100000 in
theorem tw_1173 : (Cond.constantLong "SeldomOpsModel" (155 : Nat) (5 : Int64)) ∈ xws := xws_in (List.mem_append_right _ (List.mem_of_getElem? (i := 1173) rfl)) rfl
set_option maxRecDepth 100000 in
theorem tw_1174 : (Cond.methodLink "SeldomOpsModel" (151 : Nat) ({ cls := "SeldomOpsModel", name := "in", desc := "(JJJ)Z" } : MethodName)) ∈ xws := xws_in (List.mem_append_right _ (List.mem_of_getElem? (i := 1174) rfl)) rfl
set_option maxRecDepth 100000 in
theorem tw_1175 : (Cond.static ({ cls := "SeldomOpsModel", name := "in", desc := "(JJJ)Z" } : MethodName)) ∈ xws := xws_in (List.mem_append_right _ (List.mem_of_getElem? (i := 1175) rfl)) rfl
set_option maxRecDepth 100000 in
theorem tw_1176 : (Cond.code ({ cls := "SeldomOpsModel", name := "in", desc := "(JJJ)Z" } : MethodName) prog_14_method_2_code (6 : Nat) (Option.some FieldType.boolean)) ∈ xws := xws_in (List.mem_append_right _ (List.mem_of_getElem? (i := 1176) rfl)) rfl
set_option maxRecDepth 100000 in
theorem tw_1177 : (Cond.methodLink "SeldomOpsModel" (157 : Nat) ({ cls := "SeldomOpsModel", name := "change", desc := "()V" } : MethodName)) ∈ xws := xws_in (List.mem_append_right _ (List.mem_of_getElem? (i := 1177) rfl)) rfl
set_option maxRecDepth 100000 in
theorem tw_1179 : (Cond.instanceMethod ({ cls := "SeldomOpsModel", name := "change", desc := "()V" } : MethodName)) ∈ xws := xws_in (List.mem_append_right _ (List.mem_of_getElem? (i := 1179) rfl)) rfl
set_option maxRecDepth 100000 in
theorem tw_1180 : (Cond.code ({ cls := "SeldomOpsModel", name := "change", desc := "()V" } : MethodName) prog_14_method_4_code (2 : Nat) (Option.none : Option FieldType)) ∈ xws := xws_in (List.mem_append_right _ (List.mem_of_getElem? (i := 1180) rfl)) rfl
set_option maxRecDepth 100000 in
theorem tw_1185 : (Cond.methodLink "SeldomOpsModel" (160 : Nat) ({ cls := "SeldomOpsModel", name := "isMethod", desc := "(I)Z" } : MethodName)) ∈ xws := xws_in (List.mem_append_right _ (List.mem_of_getElem? (i := 1185) rfl)) rfl
set_option maxRecDepth 100000 in
theorem tw_1187 : (Cond.instanceMethod ({ cls := "SeldomOpsModel", name := "isMethod", desc := "(I)Z" } : MethodName)) ∈ xws := xws_in (List.mem_append_right _ (List.mem_of_getElem? (i := 1187) rfl)) rfl
set_option maxRecDepth 100000 in
theorem tw_1188 : (Cond.code ({ cls := "SeldomOpsModel", name := "isMethod", desc := "(I)Z" } : MethodName) prog_14_method_3_code (2 : Nat) (Option.some FieldType.boolean)) ∈ xws := xws_in (List.mem_append_right _ (List.mem_of_getElem? (i := 1188) rfl)) rfl
set_option maxRecDepth 100000 in
theorem tw_1189 : (Cond.constantLong "SeldomOpsModel" (164 : Nat) (4 : Int64)) ∈ xws := xws_in (List.mem_append_right _ (List.mem_of_getElem? (i := 1189) rfl)) rfl
set_option maxRecDepth 100000 in
theorem tw_1190 : (Cond.methodLink "SeldomOpsModel" (166 : Nat) ({ cls := "SeldomOpsModel", name := "wordsOf", desc := "(I)I" } : MethodName)) ∈ xws := xws_in (List.mem_append_right _ (List.mem_of_getElem? (i := 1190) rfl)) rfl
set_option maxRecDepth 100000 in
theorem tw_1191 : (Cond.static ({ cls := "SeldomOpsModel", name := "wordsOf", desc := "(I)I" } : MethodName)) ∈ xws := xws_in (List.mem_append_right _ (List.mem_of_getElem? (i := 1191) rfl)) rfl
set_option maxRecDepth 100000 in
theorem tw_1192 : (Cond.code ({ cls := "SeldomOpsModel", name := "wordsOf", desc := "(I)I" } : MethodName) prog_14_method_5_code (1 : Nat) (Option.some FieldType.int)) ∈ xws := xws_in (List.mem_append_right _ (List.mem_of_getElem? (i := 1192) rfl)) rfl
set_option maxRecDepth 100000 in
theorem tw_1197 : (Cond.constantLong "SeldomOpsModel" (170 : Nat) (35 : Int64)) ∈ xws := xws_in (List.mem_append_right _ (List.mem_of_getElem? (i := 1197) rfl)) rfl
set_option maxRecDepth 100000 in
theorem tw_1198 : (Cond.methodLink "SeldomOpsModel" (172 : Nat) ({ cls := "SeldomOpsModel", name := "alter", desc := "(IIIII)I" } : MethodName)) ∈ xws := xws_in (List.mem_append_right _ (List.mem_of_getElem? (i := 1198) rfl)) rfl
set_option maxRecDepth 100000 in
theorem tw_1199 : (Cond.instanceMethod ({ cls := "SeldomOpsModel", name := "alter", desc := "(IIIII)I" } : MethodName)) ∈ xws := xws_in (List.mem_append_right _ (List.mem_of_getElem? (i := 1199) rfl)) rfl
set_option maxRecDepth 100000 in
theorem tw_1200 : (Cond.selects "SeldomOpsModel" ({ cls := "SeldomOpsModel", name := "alter", desc := "(IIIII)I" } : MethodName) ({ cls := "SeldomOpsModel", name := "alter", desc := "(IIIII)I" } : MethodName)) ∈ xws := xws_in (List.mem_append_right _ (List.mem_of_getElem? (i := 1200) rfl)) rfl
set_option maxRecDepth 100000 in
theorem tw_1201 : (Cond.code ({ cls := "SeldomOpsModel", name := "alter", desc := "(IIIII)I" } : MethodName) prog_14_method_9_code (6 : Nat) (Option.some FieldType.int)) ∈ xws := xws_in (List.mem_append_right _ (List.mem_of_getElem? (i := 1201) rfl)) rfl
set_option maxRecDepth 100000 in
theorem tw_1207 : (Cond.constantLong "SeldomOpsModel" (176 : Nat) (60 : Int64)) ∈ xws := xws_in (List.mem_append_right _ (List.mem_of_getElem? (i := 1207) rfl)) rfl
set_option maxRecDepth 100000 in
theorem tw_1208 : (Cond.constantLong "SeldomOpsModel" (178 : Nat) (59 : Int64)) ∈ xws := xws_in (List.mem_append_right _ (List.mem_of_getElem? (i := 1208) rfl)) rfl
set_option maxRecDepth 100000 in
theorem tw_1209 : (Cond.constantLong "SeldomOpsModel" (180 : Nat) (-1 : Int64)) ∈ xws := xws_in (List.mem_append_right _ (List.mem_of_getElem? (i := 1209) rfl)) rfl
set_option maxRecDepth 100000 in
theorem tw_1210 : (Cond.constantLong "SeldomOpsModel" (182 : Nat) (15 : Int64)) ∈ xws := xws_in (List.mem_append_right _ (List.mem_of_getElem? (i := 1210) rfl)) rfl
set_option maxRecDepth 100000 in
theorem tw_1231 : (Cond.methodLink "SeldomOpsModel" (228 : Nat) ({ cls := "SeldomOpsModel", name := "wrong", desc := "(III)I" } : MethodName)) ∈ xws := xws_in (List.mem_append_right _ (List.mem_of_getElem? (i := 1231) rfl)) rfl
set_option maxRecDepth 100000 in
theorem tw_1233 : (Cond.instanceMethod ({ cls := "SeldomOpsModel", name := "wrong", desc := "(III)I" } : MethodName)) ∈ xws := xws_in (List.mem_append_right _ (List.mem_of_getElem? (i := 1233) rfl)) rfl
set_option maxRecDepth 100000 in
theorem tw_1234 : (Cond.code ({ cls := "SeldomOpsModel", name := "wrong", desc := "(III)I" } : MethodName) prog_14_method_29_code (4 : Nat) (Option.some FieldType.int)) ∈ xws := xws_in (List.mem_append_right _ (List.mem_of_getElem? (i := 1234) rfl)) rfl
set_option maxRecDepth 100000 in
theorem tw_1235 : (Cond.methodLink "SeldomOpsModel" (232 : Nat) ({ cls := "SeldomOpsModel", name := "store", desc := "(II)V" } : MethodName)) ∈ xws := xws_in (List.mem_append_right _ (List.mem_of_getElem? (i := 1235) rfl)) rfl
set_option maxRecDepth 100000 in
theorem tw_1237 : (Cond.instanceMethod ({ cls := "SeldomOpsModel", name := "store", desc := "(II)V" } : MethodName)) ∈ xws := xws_in (List.mem_append_right _ (List.mem_of_getElem? (i := 1237) rfl)) rfl
set_option maxRecDepth 100000 in
theorem tw_1238 : (Cond.code ({ cls := "SeldomOpsModel", name := "store", desc := "(II)V" } : MethodName) prog_14_method_26_code (4 : Nat) (Option.none : Option FieldType)) ∈ xws := xws_in (List.mem_append_right _ (List.mem_of_getElem? (i := 1238) rfl)) rfl
set_option maxRecDepth 100000 in
theorem tw_1239 : (Cond.methodLink "SeldomOpsModel" (236 : Nat) ({ cls := "SeldomOpsModel", name := "come", desc := "(II)I" } : MethodName)) ∈ xws := xws_in (List.mem_append_right _ (List.mem_of_getElem? (i := 1239) rfl)) rfl
set_option maxRecDepth 100000 in
theorem tw_1241 : (Cond.instanceMethod ({ cls := "SeldomOpsModel", name := "come", desc := "(II)I" } : MethodName)) ∈ xws := xws_in (List.mem_append_right _ (List.mem_of_getElem? (i := 1241) rfl)) rfl
set_option maxRecDepth 100000 in
theorem tw_1242 : (Cond.code ({ cls := "SeldomOpsModel", name := "come", desc := "(II)I" } : MethodName) prog_14_method_28_code (11 : Nat) (Option.some FieldType.int)) ∈ xws := xws_in (List.mem_append_right _ (List.mem_of_getElem? (i := 1242) rfl)) rfl
set_option maxRecDepth 100000 in
theorem tw_1243 : (Cond.methodLink "SeldomOpsModel" (240 : Nat) ({ cls := "SeldomOpsModel", name := "done", desc := "(II)I" } : MethodName)) ∈ xws := xws_in (List.mem_append_right _ (List.mem_of_getElem? (i := 1243) rfl)) rfl
set_option maxRecDepth 100000 in
theorem tw_1245 : (Cond.instanceMethod ({ cls := "SeldomOpsModel", name := "done", desc := "(II)I" } : MethodName)) ∈ xws := xws_in (List.mem_append_right _ (List.mem_of_getElem? (i := 1245) rfl)) rfl
set_option maxRecDepth 100000 in
theorem tw_1246 : (Cond.code ({ cls := "SeldomOpsModel", name := "done", desc := "(II)I" } : MethodName) prog_14_method_31_code (8 : Nat) (Option.some FieldType.int)) ∈ xws := xws_in (List.mem_append_right _ (List.mem_of_getElem? (i := 1246) rfl)) rfl
set_option maxRecDepth 100000 in
theorem tw_1247 : (Cond.methodLink "SeldomOpsModel" (243 : Nat) ({ cls := "SeldomOpsModel", name := "load", desc := "(II)V" } : MethodName)) ∈ xws := xws_in (List.mem_append_right _ (List.mem_of_getElem? (i := 1247) rfl)) rfl
set_option maxRecDepth 100000 in
theorem tw_1249 : (Cond.instanceMethod ({ cls := "SeldomOpsModel", name := "load", desc := "(II)V" } : MethodName)) ∈ xws := xws_in (List.mem_append_right _ (List.mem_of_getElem? (i := 1249) rfl)) rfl
set_option maxRecDepth 100000 in
theorem tw_1250 : (Cond.code ({ cls := "SeldomOpsModel", name := "load", desc := "(II)V" } : MethodName) prog_14_method_27_code (5 : Nat) (Option.none : Option FieldType)) ∈ xws := xws_in (List.mem_append_right _ (List.mem_of_getElem? (i := 1250) rfl)) rfl
set_option maxRecDepth 100000 in
theorem tw_1251 : (Cond.methodLink "SeldomOpsModel" (246 : Nat) ({ cls := "SeldomOpsModel", name := "isOdd", desc := "(III)Z" } : MethodName)) ∈ xws := xws_in (List.mem_append_right _ (List.mem_of_getElem? (i := 1251) rfl)) rfl
set_option maxRecDepth 100000 in
theorem tw_1253 : (Cond.instanceMethod ({ cls := "SeldomOpsModel", name := "isOdd", desc := "(III)Z" } : MethodName)) ∈ xws := xws_in (List.mem_append_right _ (List.mem_of_getElem? (i := 1253) rfl)) rfl
set_option maxRecDepth 100000 in
theorem tw_1254 : (Cond.code ({ cls := "SeldomOpsModel", name := "isOdd", desc := "(III)Z" } : MethodName) prog_14_method_16_code (4 : Nat) (Option.some FieldType.boolean)) ∈ xws := xws_in (List.mem_append_right _ (List.mem_of_getElem? (i := 1254) rfl)) rfl
set_option maxRecDepth 100000 in
theorem tw_1255 : (Cond.constantLong "SeldomOpsModel" (197 : Nat) (11 : Int64)) ∈ xws := xws_in (List.mem_append_right _ (List.mem_of_getElem? (i := 1255) rfl)) rfl
set_option maxRecDepth 100000 in
theorem tw_1256 : (Cond.methodLink "SeldomOpsModel" (199 : Nat) ({ cls := "SeldomOpsModel", name := "isType", desc := "(I)Z" } : MethodName)) ∈ xws := xws_in (List.mem_append_right _ (List.mem_of_getElem? (i := 1256) rfl)) rfl
set_option maxRecDepth 100000 in
theorem tw_1257 : (Cond.static ({ cls := "SeldomOpsModel", name := "isType", desc := "(I)Z" } : MethodName)) ∈ xws := xws_in (List.mem_append_right _ (List.mem_of_getElem? (i := 1257) rfl)) rfl
set_option maxRecDepth 100000 in
theorem tw_1258 : (Cond.code ({ cls := "SeldomOpsModel", name := "isType", desc := "(I)Z" } : MethodName) prog_14_method_15_code (1 : Nat) (Option.some FieldType.boolean)) ∈ xws := xws_in (List.mem_append_right _ (List.mem_of_getElem? (i := 1258) rfl)) rfl
set_option maxRecDepth 100000 in
theorem tw_1259 : (Cond.constantLong "SeldomOpsModel" (193 : Nat) (8 : Int64)) ∈ xws := xws_in (List.mem_append_right _ (List.mem_of_getElem? (i := 1259) rfl)) rfl
set_option maxRecDepth 100000 in
theorem tw_1260 : (Cond.constantLong "SeldomOpsModel" (195 : Nat) (31 : Int64)) ∈ xws := xws_in (List.mem_append_right _ (List.mem_of_getElem? (i := 1260) rfl)) rfl
set_option maxRecDepth 100000 in
theorem tw_1261 : (Cond.constantLong "SeldomOpsModel" (202 : Nat) (7 : Int64)) ∈ xws := xws_in (List.mem_append_right _ (List.mem_of_getElem? (i := 1261) rfl)) rfl
set_option maxRecDepth 100000 in
theorem tw_1262 : (Cond.methodLink "SeldomOpsModel" (250 : Nat) ({ cls := "SeldomOpsModel", name := "isLost", desc := "(IIII)Z" } : MethodName)) ∈ xws := xws_in (List.mem_append_right _ (List.mem_of_getElem? (i := 1262) rfl)) rfl
set_option maxRecDepth 100000 in
theorem tw_1264 : (Cond.instanceMethod ({ cls := "SeldomOpsModel", name := "isLost", desc := "(IIII)Z" } : MethodName)) ∈ xws := xws_in (List.mem_append_right _ (List.mem_of_getElem? (i := 1264) rfl)) rfl
set_option maxRecDepth 100000 in
theorem tw_1265 : (Cond.code ({ cls := "SeldomOpsModel", name := "isLost", desc := "(IIII)Z" } : MethodName) prog_14_method_17_code (8 : Nat) (Option.some FieldType.boolean)) ∈ xws := xws_in (List.mem_append_right _ (List.mem_of_getElem? (i := 1265) rfl)) rfl
set_option maxRecDepth 100000 in
theorem tw_1266 : (Cond.constantLong "SeldomOpsModel" (204 : Nat) (20 : Int64)) ∈ xws := xws_in (List.mem_append_right _ (List.mem_of_getElem? (i := 1266) rfl)) rfl
set_option maxRecDepth 100000 in
theorem tw_1267 : (Cond.constantLong "SeldomOpsModel" (206 : Nat) (22 : Int64)) ∈ xws := xws_in (List.mem_append_right _ (List.mem_of_getElem? (i := 1267) rfl)) rfl
set_option maxRecDepth 100000 in
theorem tw_1268 : (Cond.methodLink "SeldomOpsModel" (208 : Nat) ({ cls := "SeldomOpsModel", name := "covers", desc := "(II)Z" } : MethodName)) ∈ xws := xws_in (List.mem_append_right _ (List.mem_of_getElem? (i := 1268) rfl)) rfl
set_option maxRecDepth 100000 in
theorem tw_1270 : (Cond.instanceMethod ({ cls := "SeldomOpsModel", name := "covers", desc := "(II)Z" } : MethodName)) ∈ xws := xws_in (List.mem_append_right _ (List.mem_of_getElem? (i := 1270) rfl)) rfl
set_option maxRecDepth 100000 in
theorem tw_1271 : (Cond.code ({ cls := "SeldomOpsModel", name := "covers", desc := "(II)Z" } : MethodName) prog_14_method_18_code (3 : Nat) (Option.some FieldType.boolean)) ∈ xws := xws_in (List.mem_append_right _ (List.mem_of_getElem? (i := 1271) rfl)) rfl
set_option maxRecDepth 100000 in
theorem tw_1272 : (Cond.constantLong "SeldomOpsModel" (254 : Nat) (16 : Int64)) ∈ xws := xws_in (List.mem_append_right _ (List.mem_of_getElem? (i := 1272) rfl)) rfl
set_option maxRecDepth 100000 in
theorem tw_1273 : (Cond.methodLink "SeldomOpsModel" (256 : Nat) ({ cls := "SeldomOpsModel", name := "moves", desc := "(I)Z" } : MethodName)) ∈ xws := xws_in (List.mem_append_right _ (List.mem_of_getElem? (i := 1273) rfl)) rfl
set_option maxRecDepth 100000 in
theorem tw_1275 : (Cond.instanceMethod ({ cls := "SeldomOpsModel", name := "moves", desc := "(I)Z" } : MethodName)) ∈ xws := xws_in (List.mem_append_right _ (List.mem_of_getElem? (i := 1275) rfl)) rfl
set_option maxRecDepth 100000 in
theorem tw_1276 : (Cond.code ({ cls := "SeldomOpsModel", name := "moves", desc := "(I)Z" } : MethodName) prog_14_method_23_code (3 : Nat) (Option.some FieldType.boolean)) ∈ xws := xws_in (List.mem_append_right _ (List.mem_of_getElem? (i := 1276) rfl)) rfl
set_option maxRecDepth 100000 in
theorem tw_1277 : (Cond.methodLink "SeldomOpsModel" (215 : Nat) ({ cls := "SeldomOpsModel", name := "isWhole", desc := "(I)Z" } : MethodName)) ∈ xws := xws_in (List.mem_append_right _ (List.mem_of_getElem? (i := 1277) rfl)) rfl
set_option maxRecDepth 100000 in
theorem tw_1279 : (Cond.instanceMethod ({ cls := "SeldomOpsModel", name := "isWhole", desc := "(I)Z" } : MethodName)) ∈ xws := xws_in (List.mem_append_right _ (List.mem_of_getElem? (i := 1279) rfl)) rfl
set_option maxRecDepth 100000 in
theorem tw_1280 : (Cond.code ({ cls := "SeldomOpsModel", name := "isWhole", desc := "(I)Z" } : MethodName) prog_14_method_21_code (2 : Nat) (Option.some FieldType.boolean)) ∈ xws := xws_in (List.mem_append_right _ (List.mem_of_getElem? (i := 1280) rfl)) rfl
set_option maxRecDepth 100000 in
theorem tw_1281 : (Cond.methodLink "SeldomOpsModel" (218 : Nat) ({ cls := "SeldomOpsModel", name := "copies", desc := "(II)Z" } : MethodName)) ∈ xws := xws_in (List.mem_append_right _ (List.mem_of_getElem? (i := 1281) rfl)) rfl
set_option maxRecDepth 100000 in
theorem tw_1283 : (Cond.instanceMethod ({ cls := "SeldomOpsModel", name := "copies", desc := "(II)Z" } : MethodName)) ∈ xws := xws_in (List.mem_append_right _ (List.mem_of_getElem? (i := 1283) rfl)) rfl
set_option maxRecDepth 100000 in
theorem tw_1284 : (Cond.code ({ cls := "SeldomOpsModel", name := "copies", desc := "(II)Z" } : MethodName) prog_14_method_22_code (4 : Nat) (Option.some FieldType.boolean)) ∈ xws := xws_in (List.mem_append_right _ (List.mem_of_getElem? (i := 1284) rfl)) rfl
set_option maxRecDepth 100000 in
theorem tw_1285 : (Cond.methodLink "SeldomOpsModel" (259 : Nat) ({ cls := "SeldomOpsModel", name := "works", desc := "(IIII)Z" } : MethodName)) ∈ xws := xws_in (List.mem_append_right _ (List.mem_of_getElem? (i := 1285) rfl)) rfl
set_option maxRecDepth 100000 in
theorem tw_1287 : (Cond.instanceMethod ({ cls := "SeldomOpsModel", name := "works", desc := "(IIII)Z" } : MethodName)) ∈ xws := xws_in (List.mem_append_right _ (List.mem_of_getElem? (i := 1287) rfl)) rfl
set_option maxRecDepth 100000 in
theorem tw_1288 : (Cond.code ({ cls := "SeldomOpsModel", name := "works", desc := "(IIII)Z" } : MethodName) prog_14_method_24_code (9 : Nat) (Option.some FieldType.boolean)) ∈ xws := xws_in (List.mem_append_right _ (List.mem_of_getElem? (i := 1288) rfl)) rfl
set_option maxRecDepth 100000 in
theorem tw_1289 : (Cond.methodLink "SeldomOpsModel" (221 : Nat) ({ cls := "SeldomOpsModel", name := "push", desc := "(I)V" } : MethodName)) ∈ xws := xws_in (List.mem_append_right _ (List.mem_of_getElem? (i := 1289) rfl)) rfl
set_option maxRecDepth 100000 in
theorem tw_1291 : (Cond.instanceMethod ({ cls := "SeldomOpsModel", name := "push", desc := "(I)V" } : MethodName)) ∈ xws := xws_in (List.mem_append_right _ (List.mem_of_getElem? (i := 1291) rfl)) rfl
set_option maxRecDepth 100000 in
theorem tw_1292 : (Cond.code ({ cls := "SeldomOpsModel", name := "push", desc := "(I)V" } : MethodName) prog_14_method_20_code (2 : Nat) (Option.none : Option FieldType)) ∈ xws := xws_in (List.mem_append_right _ (List.mem_of_getElem? (i := 1292) rfl)) rfl
set_option maxRecDepth 100000 in
theorem tw_1293 : (Cond.methodLink "SeldomOpsModel" (225 : Nat) ({ cls := "SeldomOpsModel", name := "pop", desc := "(I)Z" } : MethodName)) ∈ xws := xws_in (List.mem_append_right _ (List.mem_of_getElem? (i := 1293) rfl)) rfl
set_option maxRecDepth 100000 in
theorem tw_1295 : (Cond.instanceMethod ({ cls := "SeldomOpsModel", name := "pop", desc := "(I)Z" } : MethodName)) ∈ xws := xws_in (List.mem_append_right _ (List.mem_of_getElem? (i := 1295) rfl)) rfl
set_option maxRecDepth 100000 in
theorem tw_1296 : (Cond.code ({ cls := "SeldomOpsModel", name := "pop", desc := "(I)Z" } : MethodName) prog_14_method_19_code (5 : Nat) (Option.some FieldType.boolean)) ∈ xws := xws_in (List.mem_append_right _ (List.mem_of_getElem? (i := 1296) rfl)) rfl
set_option maxRecDepth 100000 in
theorem tw_1297 : (Cond.methodLink "SeldomOpsModel" (262 : Nat) ({ cls := "SeldomOpsModel", name := "isIn", desc := "(II)Z" } : MethodName)) ∈ xws := xws_in (List.mem_append_right _ (List.mem_of_getElem? (i := 1297) rfl)) rfl
set_option maxRecDepth 100000 in
theorem tw_1299 : (Cond.instanceMethod ({ cls := "SeldomOpsModel", name := "isIn", desc := "(II)Z" } : MethodName)) ∈ xws := xws_in (List.mem_append_right _ (List.mem_of_getElem? (i := 1299) rfl)) rfl
set_option maxRecDepth 100000 in
theorem tw_1300 : (Cond.code ({ cls := "SeldomOpsModel", name := "isIn", desc := "(II)Z" } : MethodName) prog_14_method_25_code (3 : Nat) (Option.some FieldType.boolean)) ∈ xws := xws_in (List.mem_append_right _ (List.mem_of_getElem? (i := 1300) rfl)) rfl
set_option maxRecDepth 100000 in
theorem tw_1301 : (Cond.methodLink "SeldomOpsModel" (265 : Nat) ({ cls := "SeldomOpsModel", name := "keep", desc := "()V" } : MethodName)) ∈ xws := xws_in (List.mem_append_right _ (List.mem_of_getElem? (i := 1301) rfl)) rfl
set_option maxRecDepth 100000 in
theorem tw_1303 : (Cond.instanceMethod ({ cls := "SeldomOpsModel", name := "keep", desc := "()V" } : MethodName)) ∈ xws := xws_in (List.mem_append_right _ (List.mem_of_getElem? (i := 1303) rfl)) rfl
set_option maxRecDepth 100000 in
theorem tw_1304 : (Cond.code ({ cls := "SeldomOpsModel", name := "keep", desc := "()V" } : MethodName) prog_14_method_32_code (2 : Nat) (Option.none : Option FieldType)) ∈ xws := xws_in (List.mem_append_right _ (List.mem_of_getElem? (i := 1304) rfl)) rfl
set_option maxRecDepth 100000 in
theorem tw_1305 : (Cond.methodLink "SeldomOpsModel" (268 : Nat) ({ cls := "SeldomOpsModel", name := "sendOn", desc := "(IIIIZ)I" } : MethodName)) ∈ xws := xws_in (List.mem_append_right _ (List.mem_of_getElem? (i := 1305) rfl)) rfl
set_option maxRecDepth 100000 in
theorem tw_1307 : (Cond.instanceMethod ({ cls := "SeldomOpsModel", name := "sendOn", desc := "(IIIIZ)I" } : MethodName)) ∈ xws := xws_in (List.mem_append_right _ (List.mem_of_getElem? (i := 1307) rfl)) rfl
set_option maxRecDepth 100000 in
theorem tw_1308 : (Cond.code ({ cls := "SeldomOpsModel", name := "sendOn", desc := "(IIIIZ)I" } : MethodName) prog_14_method_34_code (8 : Nat) (Option.some FieldType.int)) ∈ xws := xws_in (List.mem_append_right _ (List.mem_of_getElem? (i := 1308) rfl)) rfl
set_option maxRecDepth 100000 in
theorem tw_1309 : (Cond.methodLink "SeldomOpsModel" (275 : Nat) ({ cls := "SeldomOpsModel", name := "goOn", desc := "(II)I" } : MethodName)) ∈ xws := xws_in (List.mem_append_right _ (List.mem_of_getElem? (i := 1309) rfl)) rfl
set_option maxRecDepth 100000 in
theorem tw_1311 : (Cond.instanceMethod ({ cls := "SeldomOpsModel", name := "goOn", desc := "(II)I" } : MethodName)) ∈ xws := xws_in (List.mem_append_right _ (List.mem_of_getElem? (i := 1311) rfl)) rfl
set_option maxRecDepth 100000 in
theorem tw_1312 : (Cond.code ({ cls := "SeldomOpsModel", name := "goOn", desc := "(II)I" } : MethodName) prog_14_method_33_code (4 : Nat) (Option.some FieldType.int)) ∈ xws := xws_in (List.mem_append_right _ (List.mem_of_getElem? (i := 1312) rfl)) rfl
set_option maxRecDepth 100000 in
theorem tw_1325 : (Cond.constantLong "SeldomOpsModel" (278 : Nat) (-17 : Int64)) ∈ xws := xws_in (List.mem_append_right _ (List.mem_of_getElem? (i := 1325) rfl)) rfl
set_option maxRecDepth 100000 in
theorem tw_1334 : (Cond.constantLong "SeldomOpsModel" (290 : Nat) (3000 : Int64)) ∈ xws := xws_in (List.mem_append_right _ (List.mem_of_getElem? (i := 1334) rfl)) rfl
set_option maxRecDepth 100000 in
theorem tw_1335 : (Cond.methodLink "SeldomOpsModel" (327 : Nat) ({ cls := "SeldomOpsModel", name := "beginCall", desc := "(I)V" } : MethodName)) ∈ xws := xws_in (List.mem_append_right _ (List.mem_of_getElem? (i := 1335) rfl)) rfl
set_option maxRecDepth 100000 in
theorem tw_1337 : (Cond.instanceMethod ({ cls := "SeldomOpsModel", name := "beginCall", desc := "(I)V" } : MethodName)) ∈ xws := xws_in (List.mem_append_right _ (List.mem_of_getElem? (i := 1337) rfl)) rfl
set_option maxRecDepth 100000 in
theorem tw_1338 : (Cond.code ({ cls := "SeldomOpsModel", name := "beginCall", desc := "(I)V" } : MethodName) prog_14_method_42_code (4 : Nat) (Option.none : Option FieldType)) ∈ xws := xws_in (List.mem_append_right _ (List.mem_of_getElem? (i := 1338) rfl)) rfl
set_option maxRecDepth 100000 in
theorem tw_1339 : (Cond.methodLink "SeldomOpsModel" (336 : Nat) ({ cls := "SeldomOpsModel", name := "begin", desc := "(I)V" } : MethodName)) ∈ xws := xws_in (List.mem_append_right _ (List.mem_of_getElem? (i := 1339) rfl)) rfl
set_option maxRecDepth 100000 in
theorem tw_1341 : (Cond.instanceMethod ({ cls := "SeldomOpsModel", name := "begin", desc := "(I)V" } : MethodName)) ∈ xws := xws_in (List.mem_append_right _ (List.mem_of_getElem? (i := 1341) rfl)) rfl
set_option maxRecDepth 100000 in
theorem tw_1342 : (Cond.code ({ cls := "SeldomOpsModel", name := "begin", desc := "(I)V" } : MethodName) prog_14_method_48_code (6 : Nat) (Option.none : Option FieldType)) ∈ xws := xws_in (List.mem_append_right _ (List.mem_of_getElem? (i := 1342) rfl)) rfl
set_option maxRecDepth 100000 in
theorem tw_1343 : (Cond.methodLink "SeldomOpsModel" (350 : Nat) ({ cls := "SeldomOpsModel", name := "moveWords", desc := "(II)V" } : MethodName)) ∈ xws := xws_in (List.mem_append_right _ (List.mem_of_getElem? (i := 1343) rfl)) rfl
set_option maxRecDepth 100000 in
theorem tw_1345 : (Cond.instanceMethod ({ cls := "SeldomOpsModel", name := "moveWords", desc := "(II)V" } : MethodName)) ∈ xws := xws_in (List.mem_append_right _ (List.mem_of_getElem? (i := 1345) rfl)) rfl
set_option maxRecDepth 100000 in
theorem tw_1346 : (Cond.code ({ cls := "SeldomOpsModel", name := "moveWords", desc := "(II)V" } : MethodName) prog_14_method_49_code (8 : Nat) (Option.none : Option FieldType)) ∈ xws := xws_in (List.mem_append_right _ (List.mem_of_getElem? (i := 1346) rfl)) rfl
set_option maxRecDepth 100000 in
theorem tw_1347 : (Cond.methodLink "SeldomOpsModel" (353 : Nat) ({ cls := "SeldomOpsModel", name := "plain", desc := "(IIII)V" } : MethodName)) ∈ xws := xws_in (List.mem_append_right _ (List.mem_of_getElem? (i := 1347) rfl)) rfl
set_option maxRecDepth 100000 in
theorem tw_1349 : (Cond.instanceMethod ({ cls := "SeldomOpsModel", name := "plain", desc := "(IIII)V" } : MethodName)) ∈ xws := xws_in (List.mem_append_right _ (List.mem_of_getElem? (i := 1349) rfl)) rfl
set_option maxRecDepth 100000 in
theorem tw_1350 : (Cond.code ({ cls := "SeldomOpsModel", name := "plain", desc := "(IIII)V" } : MethodName) prog_14_method_50_code (5 : Nat) (Option.none : Option FieldType)) ∈ xws := xws_in (List.mem_append_right _ (List.mem_of_getElem? (i := 1350) rfl)) rfl
set_option maxRecDepth 100000 in
theorem tw_1351 : (Cond.methodLink "SeldomOpsModel" (346 : Nat) ({ cls := "SeldomOpsModel", name := "put", desc := "(IIJ)V" } : MethodName)) ∈ xws := xws_in (List.mem_append_right _ (List.mem_of_getElem? (i := 1351) rfl)) rfl
set_option maxRecDepth 100000 in
theorem tw_1353 : (Cond.instanceMethod ({ cls := "SeldomOpsModel", name := "put", desc := "(IIJ)V" } : MethodName)) ∈ xws := xws_in (List.mem_append_right _ (List.mem_of_getElem? (i := 1353) rfl)) rfl
set_option maxRecDepth 100000 in
theorem tw_1354 : (Cond.code ({ cls := "SeldomOpsModel", name := "put", desc := "(IIJ)V" } : MethodName) prog_14_method_41_code (5 : Nat) (Option.none : Option FieldType)) ∈ xws := xws_in (List.mem_append_right _ (List.mem_of_getElem? (i := 1354) rfl)) rfl
set_option maxRecDepth 100000 in
theorem tw_1355 : (Cond.methodLink "SeldomOpsModel" (280 : Nat) ({ cls := "SeldomOpsModel", name := "take", desc := "(II)J" } : MethodName)) ∈ xws := xws_in (List.mem_append_right _ (List.mem_of_getElem? (i := 1355) rfl)) rfl
set_option maxRecDepth 100000 in
theorem tw_1357 : (Cond.instanceMethod ({ cls := "SeldomOpsModel", name := "take", desc := "(II)J" } : MethodName)) ∈ xws := xws_in (List.mem_append_right _ (List.mem_of_getElem? (i := 1357) rfl)) rfl
set_option maxRecDepth 100000 in
theorem tw_1358 : (Cond.code ({ cls := "SeldomOpsModel", name := "take", desc := "(II)J" } : MethodName) prog_14_method_39_code (3 : Nat) (Option.some FieldType.long)) ∈ xws := xws_in (List.mem_append_right _ (List.mem_of_getElem? (i := 1358) rfl)) rfl
set_option maxRecDepth 100000 in
theorem tw_1359 : (Cond.methodLink "SeldomOpsModel" (357 : Nat) ({ cls := "SeldomOpsModel", name := "number3", desc := "(IIII)V" } : MethodName)) ∈ xws := xws_in (List.mem_append_right _ (List.mem_of_getElem? (i := 1359) rfl)) rfl
set_option maxRecDepth 100000 in
theorem tw_1361 : (Cond.instanceMethod ({ cls := "SeldomOpsModel", name := "number3", desc := "(IIII)V" } : MethodName)) ∈ xws := xws_in (List.mem_append_right _ (List.mem_of_getElem? (i := 1361) rfl)) rfl
set_option maxRecDepth 100000 in
theorem tw_1362 : (Cond.code ({ cls := "SeldomOpsModel", name := "number3", desc := "(IIII)V" } : MethodName) prog_14_method_51_code (11 : Nat) (Option.none : Option FieldType)) ∈ xws := xws_in (List.mem_append_right _ (List.mem_of_getElem? (i := 1362) rfl)) rfl
set_option maxRecDepth 100000 in
theorem tw_1363 : (Cond.methodLink "SeldomOpsModel" (373 : Nat) ({ cls := "SeldomOpsModel", name := "fail", desc := "(I)V" } : MethodName)) ∈ xws := xws_in (List.mem_append_right _ (List.mem_of_getElem? (i := 1363) rfl)) rfl
set_option maxRecDepth 100000 in
theorem tw_1365 : (Cond.instanceMethod ({ cls := "SeldomOpsModel", name := "fail", desc := "(I)V" } : MethodName)) ∈ xws := xws_in (List.mem_append_right _ (List.mem_of_getElem? (i := 1365) rfl)) rfl
set_option maxRecDepth 100000 in
theorem tw_1366 : (Cond.code ({ cls := "SeldomOpsModel", name := "fail", desc := "(I)V" } : MethodName) prog_14_method_46_code (2 : Nat) (Option.none : Option FieldType)) ∈ xws := xws_in (List.mem_append_right _ (List.mem_of_getElem? (i := 1366) rfl)) rfl
set_option maxRecDepth 100000 in
theorem tw_1367 : (Cond.methodLink "SeldomOpsModel" (376 : Nat) ({ cls := "SeldomOpsModel", name := "reckoned", desc := "(JJII)J" } : MethodName)) ∈ xws := xws_in (List.mem_append_right _ (List.mem_of_getElem? (i := 1367) rfl)) rfl
set_option maxRecDepth 100000 in
theorem tw_1368 : (Cond.static ({ cls := "SeldomOpsModel", name := "reckoned", desc := "(JJII)J" } : MethodName)) ∈ xws := xws_in (List.mem_append_right _ (List.mem_of_getElem? (i := 1368) rfl)) rfl
set_option maxRecDepth 100000 in
theorem tw_1369 : (Cond.code ({ cls := "SeldomOpsModel", name := "reckoned", desc := "(JJII)J" } : MethodName) prog_14_method_53_code (6 : Nat) (Option.some FieldType.long)) ∈ xws := xws_in (List.mem_append_right _ (List.mem_of_getElem? (i := 1369) rfl)) rfl
set_option maxRecDepth 100000 in
theorem tw_1370 : (Cond.methodLink "SeldomOpsModel" (380 : Nat) ({ cls := "SeldomOpsModel", name := "narrow", desc := "(JI)J" } : MethodName)) ∈ xws := xws_in (List.mem_append_right _ (List.mem_of_getElem? (i := 1370) rfl)) rfl
set_option maxRecDepth 100000 in
theorem tw_1371 : (Cond.static ({ cls := "SeldomOpsModel", name := "narrow", desc := "(JI)J" } : MethodName)) ∈ xws := xws_in (List.mem_append_right _ (List.mem_of_getElem? (i := 1371) rfl)) rfl
set_option maxRecDepth 100000 in
theorem tw_1372 : (Cond.code ({ cls := "SeldomOpsModel", name := "narrow", desc := "(JI)J" } : MethodName) prog_14_method_52_code (4 : Nat) (Option.some FieldType.long)) ∈ xws := xws_in (List.mem_append_right _ (List.mem_of_getElem? (i := 1372) rfl)) rfl
set_option maxRecDepth 100000 in
theorem tw_1373 : (Cond.constant "SeldomOpsModel" (388 : Nat) (65535 : Int32)) ∈ xws := xws_in (List.mem_append_right _ (List.mem_of_getElem? (i := 1373) rfl)) rfl
set_option maxRecDepth 100000 in
theorem tw_1374 : (Cond.methodLink "SeldomOpsModel" (384 : Nat) ({ cls := "SeldomOpsModel", name := "compared", desc := "(JJI)I" } : MethodName)) ∈ xws := xws_in (List.mem_append_right _ (List.mem_of_getElem? (i := 1374) rfl)) rfl
set_option maxRecDepth 100000 in
theorem tw_1375 : (Cond.static ({ cls := "SeldomOpsModel", name := "compared", desc := "(JJI)I" } : MethodName)) ∈ xws := xws_in (List.mem_append_right _ (List.mem_of_getElem? (i := 1375) rfl)) rfl
set_option maxRecDepth 100000 in
theorem tw_1376 : (Cond.code ({ cls := "SeldomOpsModel", name := "compared", desc := "(JJI)I" } : MethodName) prog_14_method_56_code (9 : Nat) (Option.some FieldType.int)) ∈ xws := xws_in (List.mem_append_right _ (List.mem_of_getElem? (i := 1376) rfl)) rfl
set_option maxRecDepth 100000 in
theorem tw_1377 : (Cond.methodLink "SeldomOpsModel" (401 : Nat) ({ cls := "SeldomOpsModel", name := "isNone", desc := "(JZ)Z" } : MethodName)) ∈ xws := xws_in (List.mem_append_right _ (List.mem_of_getElem? (i := 1377) rfl)) rfl
set_option maxRecDepth 100000 in
theorem tw_1378 : (Cond.static ({ cls := "SeldomOpsModel", name := "isNone", desc := "(JZ)Z" } : MethodName)) ∈ xws := xws_in (List.mem_append_right _ (List.mem_of_getElem? (i := 1378) rfl)) rfl
set_option maxRecDepth 100000 in
theorem tw_1379 : (Cond.code ({ cls := "SeldomOpsModel", name := "isNone", desc := "(JZ)Z" } : MethodName) prog_14_method_54_code (7 : Nat) (Option.some FieldType.boolean)) ∈ xws := xws_in (List.mem_append_right _ (List.mem_of_getElem? (i := 1379) rfl)) rfl
set_option maxRecDepth 100000 in
theorem tw_1380 : (Cond.constantLong "SeldomOpsModel" (389 : Nat) (9218868437227405312 : Int64)) ∈ xws := xws_in (List.mem_append_right _ (List.mem_of_getElem? (i := 1380) rfl)) rfl
set_option maxRecDepth 100000 in
theorem tw_1381 : (Cond.constantLong "SeldomOpsModel" (391 : Nat) (2139095040 : Int64)) ∈ xws := xws_in (List.mem_append_right _ (List.mem_of_getElem? (i := 1381) rfl)) rfl
set_option maxRecDepth 100000 in
theorem tw_1382 : (Cond.constantLong "SeldomOpsModel" (393 : Nat) (4503599627370495 : Int64)) ∈ xws := xws_in (List.mem_append_right _ (List.mem_of_getElem? (i := 1382) rfl)) rfl
set_option maxRecDepth 100000 in
theorem tw_1383 : (Cond.constantLong "SeldomOpsModel" (395 : Nat) (8388607 : Int64)) ∈ xws := xws_in (List.mem_append_right _ (List.mem_of_getElem? (i := 1383) rfl)) rfl
set_option maxRecDepth 100000 in
theorem tw_1384 : (Cond.methodLink "SeldomOpsModel" (405 : Nat) ({ cls := "SeldomOpsModel", name := "inOrder", desc := "(JZ)J" } : MethodName)) ∈ xws := xws_in (List.mem_append_right _ (List.mem_of_getElem? (i := 1384) rfl)) rfl
set_option maxRecDepth 100000 in
theorem tw_1385 : (Cond.static ({ cls := "SeldomOpsModel", name := "inOrder", desc := "(JZ)J" } : MethodName)) ∈ xws := xws_in (List.mem_append_right _ (List.mem_of_getElem? (i := 1385) rfl)) rfl
set_option maxRecDepth 100000 in
theorem tw_1386 : (Cond.code ({ cls := "SeldomOpsModel", name := "inOrder", desc := "(JZ)J" } : MethodName) prog_14_method_55_code (5 : Nat) (Option.some FieldType.long)) ∈ xws := xws_in (List.mem_append_right _ (List.mem_of_getElem? (i := 1386) rfl)) rfl
set_option maxRecDepth 100000 in
theorem tw_1387 : (Cond.constantLong "SeldomOpsModel" (397 : Nat) (9223372036854775807 : Int64)) ∈ xws := xws_in (List.mem_append_right _ (List.mem_of_getElem? (i := 1387) rfl)) rfl
set_option maxRecDepth 100000 in
theorem tw_1388 : (Cond.constantLong "SeldomOpsModel" (399 : Nat) (2147483647 : Int64)) ∈ xws := xws_in (List.mem_append_right _ (List.mem_of_getElem? (i := 1388) rfl)) rfl
set_option maxRecDepth 100000 in
theorem tw_1389 : (Cond.methodLink "SeldomOpsModel" (360 : Nat) ({ cls := "SeldomOpsModel", name := "leads", desc := "(IIII)Z" } : MethodName)) ∈ xws := xws_in (List.mem_append_right _ (List.mem_of_getElem? (i := 1389) rfl)) rfl
set_option maxRecDepth 100000 in
theorem tw_1391 : (Cond.instanceMethod ({ cls := "SeldomOpsModel", name := "leads", desc := "(IIII)Z" } : MethodName)) ∈ xws := xws_in (List.mem_append_right _ (List.mem_of_getElem? (i := 1391) rfl)) rfl
set_option maxRecDepth 100000 in
theorem tw_1392 : (Cond.code ({ cls := "SeldomOpsModel", name := "leads", desc := "(IIII)Z" } : MethodName) prog_14_method_57_code (7 : Nat) (Option.some FieldType.boolean)) ∈ xws := xws_in (List.mem_append_right _ (List.mem_of_getElem? (i := 1392) rfl)) rfl
set_option maxRecDepth 100000 in
theorem tw_1393 : (Cond.methodLink "SeldomOpsModel" (409 : Nat) ({ cls := "SeldomOpsModel", name := "takeInt", desc := "(I)I" } : MethodName)) ∈ xws := xws_in (List.mem_append_right _ (List.mem_of_getElem? (i := 1393) rfl)) rfl
set_option maxRecDepth 100000 in
theorem tw_1395 : (Cond.instanceMethod ({ cls := "SeldomOpsModel", name := "takeInt", desc := "(I)I" } : MethodName)) ∈ xws := xws_in (List.mem_append_right _ (List.mem_of_getElem? (i := 1395) rfl)) rfl
set_option maxRecDepth 100000 in
theorem tw_1396 : (Cond.code ({ cls := "SeldomOpsModel", name := "takeInt", desc := "(I)I" } : MethodName) prog_14_method_40_code (2 : Nat) (Option.some FieldType.int)) ∈ xws := xws_in (List.mem_append_right _ (List.mem_of_getElem? (i := 1396) rfl)) rfl
set_option maxRecDepth 100000 in
theorem tw_1397 : (Cond.methodLink "SeldomOpsModel" (366 : Nat) ({ cls := "SeldomOpsModel", name := "thing3", desc := "(IIII)V" } : MethodName)) ∈ xws := xws_in (List.mem_append_right _ (List.mem_of_getElem? (i := 1397) rfl)) rfl
set_option maxRecDepth 100000 in
theorem tw_1399 : (Cond.instanceMethod ({ cls := "SeldomOpsModel", name := "thing3", desc := "(IIII)V" } : MethodName)) ∈ xws := xws_in (List.mem_append_right _ (List.mem_of_getElem? (i := 1399) rfl)) rfl
set_option maxRecDepth 100000 in
theorem tw_1400 : (Cond.code ({ cls := "SeldomOpsModel", name := "thing3", desc := "(IIII)V" } : MethodName) prog_14_method_58_code (6 : Nat) (Option.none : Option FieldType)) ∈ xws := xws_in (List.mem_append_right _ (List.mem_of_getElem? (i := 1400) rfl)) rfl
set_option maxRecDepth 100000 in
theorem tw_1401 : (Cond.methodLink "SeldomOpsModel" (412 : Nat) ({ cls := "SeldomOpsModel", name := "newArray", desc := "(III)V" } : MethodName)) ∈ xws := xws_in (List.mem_append_right _ (List.mem_of_getElem? (i := 1401) rfl)) rfl
set_option maxRecDepth 100000 in
theorem tw_1403 : (Cond.instanceMethod ({ cls := "SeldomOpsModel", name := "newArray", desc := "(III)V" } : MethodName)) ∈ xws := xws_in (List.mem_append_right _ (List.mem_of_getElem? (i := 1403) rfl)) rfl
set_option maxRecDepth 100000 in
theorem tw_1404 : (Cond.code ({ cls := "SeldomOpsModel", name := "newArray", desc := "(III)V" } : MethodName) prog_14_method_59_code (19 : Nat) (Option.none : Option FieldType)) ∈ xws := xws_in (List.mem_append_right _ (List.mem_of_getElem? (i := 1404) rfl)) rfl
set_option maxRecDepth 100000 in
theorem tw_1405 : (Cond.constantLong "SeldomOpsModel" (421 : Nat) (100 : Int64)) ∈ xws := xws_in (List.mem_append_right _ (List.mem_of_getElem? (i := 1405) rfl)) rfl
set_option maxRecDepth 100000 in
theorem tw_1406 : (Cond.methodLink "SeldomOpsModel" (343 : Nat) ({ cls := "SeldomOpsModel", name := "newThing", desc := "(II)I" } : MethodName)) ∈ xws := xws_in (List.mem_append_right _ (List.mem_of_getElem? (i := 1406) rfl)) rfl
set_option maxRecDepth 100000 in
theorem tw_1408 : (Cond.instanceMethod ({ cls := "SeldomOpsModel", name := "newThing", desc := "(II)I" } : MethodName)) ∈ xws := xws_in (List.mem_append_right _ (List.mem_of_getElem? (i := 1408) rfl)) rfl
set_option maxRecDepth 100000 in
theorem tw_1409 : (Cond.code ({ cls := "SeldomOpsModel", name := "newThing", desc := "(II)I" } : MethodName) prog_14_method_45_code (5 : Nat) (Option.some FieldType.int)) ∈ xws := xws_in (List.mem_append_right _ (List.mem_of_getElem? (i := 1409) rfl)) rfl
set_option maxRecDepth 100000 in
theorem tw_1410 : (Cond.methodLink "SeldomOpsModel" (415 : Nat) ({ cls := "SeldomOpsModel", name := "cellOf", desc := "(III)V" } : MethodName)) ∈ xws := xws_in (List.mem_append_right _ (List.mem_of_getElem? (i := 1410) rfl)) rfl
set_option maxRecDepth 100000 in
theorem tw_1412 : (Cond.instanceMethod ({ cls := "SeldomOpsModel", name := "cellOf", desc := "(III)V" } : MethodName)) ∈ xws := xws_in (List.mem_append_right _ (List.mem_of_getElem? (i := 1412) rfl)) rfl
set_option maxRecDepth 100000 in
theorem tw_1413 : (Cond.code ({ cls := "SeldomOpsModel", name := "cellOf", desc := "(III)V" } : MethodName) prog_14_method_60_code (11 : Nat) (Option.none : Option FieldType)) ∈ xws := xws_in (List.mem_append_right _ (List.mem_of_getElem? (i := 1413) rfl)) rfl
set_option maxRecDepth 100000 in
theorem tw_1414 : (Cond.methodLink "SeldomOpsModel" (418 : Nat) ({ cls := "SeldomOpsModel", name := "isArray", desc := "(I)Z" } : MethodName)) ∈ xws := xws_in (List.mem_append_right _ (List.mem_of_getElem? (i := 1414) rfl)) rfl
set_option maxRecDepth 100000 in
theorem tw_1416 : (Cond.instanceMethod ({ cls := "SeldomOpsModel", name := "isArray", desc := "(I)Z" } : MethodName)) ∈ xws := xws_in (List.mem_append_right _ (List.mem_of_getElem? (i := 1416) rfl)) rfl
set_option maxRecDepth 100000 in
theorem tw_1417 : (Cond.code ({ cls := "SeldomOpsModel", name := "isArray", desc := "(I)Z" } : MethodName) prog_14_method_47_code (2 : Nat) (Option.some FieldType.boolean)) ∈ xws := xws_in (List.mem_append_right _ (List.mem_of_getElem? (i := 1417) rfl)) rfl
set_option maxRecDepth 100000 in
theorem tw_1418 : (Cond.methodLink "SeldomOpsModel" (369 : Nat) ({ cls := "SeldomOpsModel", name := "callOrEnd", desc := "(III)V" } : MethodName)) ∈ xws := xws_in (List.mem_append_right _ (List.mem_of_getElem? (i := 1418) rfl)) rfl
set_option maxRecDepth 100000 in
theorem tw_1420 : (Cond.instanceMethod ({ cls := "SeldomOpsModel", name := "callOrEnd", desc := "(III)V" } : MethodName)) ∈ xws := xws_in (List.mem_append_right _ (List.mem_of_getElem? (i := 1420) rfl)) rfl
set_option maxRecDepth 100000 in
theorem tw_1421 : (Cond.code ({ cls := "SeldomOpsModel", name := "callOrEnd", desc := "(III)V" } : MethodName) prog_14_method_61_code (7 : Nat) (Option.none : Option FieldType)) ∈ xws := xws_in (List.mem_append_right _ (List.mem_of_getElem? (i := 1421) rfl)) rfl
set_option maxRecDepth 100000 in
theorem tw_1422 : (Cond.methodLink "SeldomOpsModel" (339 : Nat) ({ cls := "SeldomOpsModel", name := "isCaught", desc := "()Z" } : MethodName)) ∈ xws := xws_in (List.mem_append_right _ (List.mem_of_getElem? (i := 1422) rfl)) rfl
set_option maxRecDepth 100000 in
theorem tw_1424 : (Cond.instanceMethod ({ cls := "SeldomOpsModel", name := "isCaught", desc := "()Z" } : MethodName)) ∈ xws := xws_in (List.mem_append_right _ (List.mem_of_getElem? (i := 1424) rfl)) rfl
set_option maxRecDepth 100000 in
theorem tw_1425 : (Cond.code ({ cls := "SeldomOpsModel", name := "isCaught", desc := "()Z" } : MethodName) prog_14_method_44_code (5 : Nat) (Option.some FieldType.boolean)) ∈ xws := xws_in (List.mem_append_right _ (List.mem_of_getElem? (i := 1425) rfl)) rfl
set_option maxRecDepth 100000 in
theorem tw_1438 : (Cond.constantLong "SeldomOpsModel" (423 : Nat) (2 : Int64)) ∈ xws := xws_in (List.mem_append_right _ (List.mem_of_getElem? (i := 1438) rfl)) rfl
set_option maxRecDepth 100000 in
theorem tw_1443 : (Cond.constantLong "SeldomOpsModel" (425 : Nat) (-2 : Int64)) ∈ xws := xws_in (List.mem_append_right _ (List.mem_of_getElem? (i := 1443) rfl)) rfl
set_option maxRecDepth 100000 in
theorem ts_0 : Cond.selects "SeldomOps$Judge" ⟨"SeldomOps$Judge", "begin", "(LSeldomOps$Method;)V"⟩ ⟨"SeldomOps$Judge", "begin", "(LSeldomOps$Method;)V"⟩ ∈ xws := xws_in (List.mem_append_left _ (List.mem_of_getElem? (i := 0) rfl)) rfl
set_option maxRecDepth 100000 in
theorem ts_1 : Cond.selects "SeldomOps$Shape" ⟨"SeldomOps$Shape", "writeLocal", "(II)V"⟩ ⟨"SeldomOps$Shape", "writeLocal", "(II)V"⟩ ∈ xws := xws_in (List.mem_append_left _ (List.mem_of_getElem? (i := 1) rfl)) rfl
set_option maxRecDepth 100000 in
theorem ts_2 : Cond.selects "SeldomOps$Shapes" ⟨"SeldomOps$Shapes", "keep", "(ILSeldomOps$Shape;)V"⟩ ⟨"SeldomOps$Shapes", "keep", "(ILSeldomOps$Shape;)V"⟩ ∈ xws := xws_in (List.mem_append_left _ (List.mem_of_getElem? (i := 2) rfl)) rfl
set_option maxRecDepth 100000 in
theorem ts_3 : Cond.selects "SeldomOps$Shapes" ⟨"SeldomOps$Shapes", "isStack", "(ILSeldomOps$Words;)Z"⟩ ⟨"SeldomOps$Shapes", "isStack", "(ILSeldomOps$Words;)Z"⟩ ∈ xws := xws_in (List.mem_append_left _ (List.mem_of_getElem? (i := 3) rfl)) rfl
set_option maxRecDepth 100000 in
theorem ts_4 : Cond.selects "SeldomOps$Shapes" ⟨"SeldomOps$Shapes", "joinLocals", "(I[J)Z"⟩ ⟨"SeldomOps$Shapes", "joinLocals", "(I[J)Z"⟩ ∈ xws := xws_in (List.mem_append_left _ (List.mem_of_getElem? (i := 4) rfl)) rfl
set_option maxRecDepth 100000 in
theorem ts_5 : Cond.selects "SeldomOps$Judge" ⟨"SeldomOps$Judge", "ownFault", "(LSeldomOps$Method;I)I"⟩ ⟨"SeldomOps$Judge", "ownFault", "(LSeldomOps$Method;I)I"⟩ ∈ xws := xws_in (List.mem_append_left _ (List.mem_of_getElem? (i := 5) rfl)) rfl
set_option maxRecDepth 100000 in
theorem ts_6 : Cond.selects "SeldomOps$Judge" ⟨"SeldomOps$Judge", "operandsAreSuch", "(III)Z"⟩ ⟨"SeldomOps$Judge", "operandsAreSuch", "(III)Z"⟩ ∈ xws := xws_in (List.mem_append_left _ (List.mem_of_getElem? (i := 6) rfl)) rfl
set_option maxRecDepth 100000 in
theorem ts_7 : Cond.selects "SeldomOps$Judge" ⟨"SeldomOps$Judge", "targetsAreThere", "(LSeldomOps$Method;I)Z"⟩ ⟨"SeldomOps$Judge", "targetsAreThere", "(LSeldomOps$Method;I)Z"⟩ ∈ xws := xws_in (List.mem_append_left _ (List.mem_of_getElem? (i := 7) rfl)) rfl
set_option maxRecDepth 100000 in
theorem ts_8 : Cond.selects "SeldomOps$Judge" ⟨"SeldomOps$Judge", "takeAll", "(III)Z"⟩ ⟨"SeldomOps$Judge", "takeAll", "(III)Z"⟩ ∈ xws := xws_in (List.mem_append_left _ (List.mem_of_getElem? (i := 8) rfl)) rfl
set_option maxRecDepth 100000 in
theorem ts_9 : Cond.selects "SeldomOps$Judge" ⟨"SeldomOps$Judge", "takeCalculated", "(II)Z"⟩ ⟨"SeldomOps$Judge", "takeCalculated", "(II)Z"⟩ ∈ xws := xws_in (List.mem_append_left _ (List.mem_of_getElem? (i := 9) rfl)) rfl
set_option maxRecDepth 100000 in
theorem ts_10 : Cond.selects "SeldomOps$Judge" ⟨"SeldomOps$Judge", "takeSizes", "(I)Z"⟩ ⟨"SeldomOps$Judge", "takeSizes", "(I)Z"⟩ ∈ xws := xws_in (List.mem_append_left _ (List.mem_of_getElem? (i := 10) rfl)) rfl
set_option maxRecDepth 100000 in
theorem ts_11 : Cond.selects "SeldomOps$Judge" ⟨"SeldomOps$Judge", "takeArguments", "(LSeldomOps$Method;)Z"⟩ ⟨"SeldomOps$Judge", "takeArguments", "(LSeldomOps$Method;)Z"⟩ ∈ xws := xws_in (List.mem_append_left _ (List.mem_of_getElem? (i := 11) rfl)) rfl
set_option maxRecDepth 100000 in
theorem ts_12 : Cond.selects "SeldomOps$Judge" ⟨"SeldomOps$Judge", "putAll", "(III)V"⟩ ⟨"SeldomOps$Judge", "putAll", "(III)V"⟩ ∈ xws := xws_in (List.mem_append_left _ (List.mem_of_getElem? (i := 12) rfl)) rfl
set_option maxRecDepth 100000 in
theorem ts_13 : Cond.selects "SeldomOps$Words" ⟨"SeldomOps$Words", "copyUnder", "(II)V"⟩ ⟨"SeldomOps$Words", "copyUnder", "(II)V"⟩ ∈ xws := xws_in (List.mem_append_left _ (List.mem_of_getElem? (i := 13) rfl)) rfl
set_option maxRecDepth 100000 in
theorem ts_14 : Cond.selects "SeldomOps$Judge" ⟨"SeldomOps$Judge", "kindPut", "(III)I"⟩ ⟨"SeldomOps$Judge", "kindPut", "(III)I"⟩ ∈ xws := xws_in (List.mem_append_left _ (List.mem_of_getElem? (i := 14) rfl)) rfl
set_option maxRecDepth 100000 in
theorem ts_15 : Cond.selects "SeldomOps$Judge" ⟨"SeldomOps$Judge", "sendToHandlers", "(LSeldomOps$Method;I)Z"⟩ ⟨"SeldomOps$Judge", "sendToHandlers", "(LSeldomOps$Method;I)Z"⟩ ∈ xws := xws_in (List.mem_append_left _ (List.mem_of_getElem? (i := 15) rfl)) rfl
set_option maxRecDepth 100000 in
theorem ts_16 : Cond.selects "SeldomOps$Judge" ⟨"SeldomOps$Judge", "send", "(LSeldomOps$Method;ILSeldomOps$Shape;)Z"⟩ ⟨"SeldomOps$Judge", "send", "(LSeldomOps$Method;ILSeldomOps$Shape;)Z"⟩ ∈ xws := xws_in (List.mem_append_left _ (List.mem_of_getElem? (i := 16) rfl)) rfl
set_option maxRecDepth 100000 in
theorem ts_17 : Cond.selects "SeldomOps$Judge" ⟨"SeldomOps$Judge", "sendOn", "(LSeldomOps$Method;I)Z"⟩ ⟨"SeldomOps$Judge", "sendOn", "(LSeldomOps$Method;I)Z"⟩ ∈ xws := xws_in (List.mem_append_left _ (List.mem_of_getElem? (i := 17) rfl)) rfl
set_option maxRecDepth 100000 in
theorem ts_18 : Cond.selects "SeldomOps$Judge" ⟨"SeldomOps$Judge", "sendByTable", "(LSeldomOps$Method;LSeldomOps$Table;)Z"⟩ ⟨"SeldomOps$Judge", "sendByTable", "(LSeldomOps$Method;LSeldomOps$Table;)Z"⟩ ∈ xws := xws_in (List.mem_append_left _ (List.mem_of_getElem? (i := 18) rfl)) rfl
set_option maxRecDepth 100000 in
theorem ts_19 : Cond.selects "SeldomOps$Walker" ⟨"SeldomOps$Walker", "perform", "(LSeldomOps$Call;III)I"⟩ ⟨"SeldomOps$Walker", "perform", "(LSeldomOps$Call;III)I"⟩ ∈ xws := xws_in (List.mem_append_left _ (List.mem_of_getElem? (i := 19) rfl)) rfl
set_option maxRecDepth 100000 in
theorem ts_20 : Cond.selects "SeldomOps$Walker" ⟨"SeldomOps$Walker", "pushFixed", "(LSeldomOps$Words;II)I"⟩ ⟨"SeldomOps$Walker", "pushFixed", "(LSeldomOps$Words;II)I"⟩ ∈ xws := xws_in (List.mem_append_left _ (List.mem_of_getElem? (i := 20) rfl)) rfl
set_option maxRecDepth 100000 in
theorem ts_21 : Cond.selects "SeldomOps$Walker" ⟨"SeldomOps$Walker", "useLocal", "(LSeldomOps$Call;III)I"⟩ ⟨"SeldomOps$Walker", "useLocal", "(LSeldomOps$Call;III)I"⟩ ∈ xws := xws_in (List.mem_append_left _ (List.mem_of_getElem? (i := 21) rfl)) rfl
set_option maxRecDepth 100000 in
theorem ts_22 : Cond.selects "SeldomOps$Walker" ⟨"SeldomOps$Walker", "compute", "(LSeldomOps$Words;III)I"⟩ ⟨"SeldomOps$Walker", "compute", "(LSeldomOps$Words;III)I"⟩ ∈ xws := xws_in (List.mem_append_left _ (List.mem_of_getElem? (i := 22) rfl)) rfl
set_option maxRecDepth 100000 in
theorem ts_23 : Cond.selects "SeldomOps$Walker" ⟨"SeldomOps$Walker", "calculate", "(LSeldomOps$Words;II)I"⟩ ⟨"SeldomOps$Walker", "calculate", "(LSeldomOps$Words;II)I"⟩ ∈ xws := xws_in (List.mem_append_left _ (List.mem_of_getElem? (i := 23) rfl)) rfl
set_option maxRecDepth 100000 in
theorem ts_24 : Cond.selects "SeldomOps$Walker" ⟨"SeldomOps$Walker", "jump", "(LSeldomOps$Call;III)I"⟩ ⟨"SeldomOps$Walker", "jump", "(LSeldomOps$Call;III)I"⟩ ∈ xws := xws_in (List.mem_append_left _ (List.mem_of_getElem? (i := 24) rfl)) rfl
set_option maxRecDepth 100000 in
theorem ts_25 : Cond.selects "SeldomOps$Walker" ⟨"SeldomOps$Walker", "useArray", "(LSeldomOps$Words;III)I"⟩ ⟨"SeldomOps$Walker", "useArray", "(LSeldomOps$Words;III)I"⟩ ∈ xws := xws_in (List.mem_append_left _ (List.mem_of_getElem? (i := 25) rfl)) rfl
set_option maxRecDepth 100000 in
theorem ts_26 : Cond.selects "SeldomOps$Walker" ⟨"SeldomOps$Walker", "newArray", "(LSeldomOps$Words;II)I"⟩ ⟨"SeldomOps$Walker", "newArray", "(LSeldomOps$Words;II)I"⟩ ∈ xws := xws_in (List.mem_append_left _ (List.mem_of_getElem? (i := 26) rfl)) rfl
set_option maxRecDepth 100000 in
theorem ts_27 : Cond.selects "SeldomOps$Things" ⟨"SeldomOps$Things", "add", "(II)I"⟩ ⟨"SeldomOps$Things", "add", "(II)I"⟩ ∈ xws := xws_in (List.mem_append_left _ (List.mem_of_getElem? (i := 27) rfl)) rfl
set_option maxRecDepth 100000 in
theorem ts_28 : Cond.selects "SeldomOps$Walker" ⟨"SeldomOps$Walker", "getCell", "(LSeldomOps$Words;I)I"⟩ ⟨"SeldomOps$Walker", "getCell", "(LSeldomOps$Words;I)I"⟩ ∈ xws := xws_in (List.mem_append_left _ (List.mem_of_getElem? (i := 28) rfl)) rfl
set_option maxRecDepth 100000 in
theorem ts_29 : Cond.selects "SeldomOps$Walker" ⟨"SeldomOps$Walker", "putCell", "(LSeldomOps$Words;I)I"⟩ ⟨"SeldomOps$Walker", "putCell", "(LSeldomOps$Words;I)I"⟩ ∈ xws := xws_in (List.mem_append_left _ (List.mem_of_getElem? (i := 29) rfl)) rfl
set_option maxRecDepth 100000 in
theorem ts_30 : Cond.selects "SeldomOps$Walker" ⟨"SeldomOps$Walker", "countCells", "(LSeldomOps$Words;)I"⟩ ⟨"SeldomOps$Walker", "countCells", "(LSeldomOps$Words;)I"⟩ ∈ xws := xws_in (List.mem_append_left _ (List.mem_of_getElem? (i := 30) rfl)) rfl
set_option maxRecDepth 100000 in
theorem ts_31 : Cond.selects "SeldomOps$Walker" ⟨"SeldomOps$Walker", "useFailure", "(LSeldomOps$Words;II)I"⟩ ⟨"SeldomOps$Walker", "useFailure", "(LSeldomOps$Words;II)I"⟩ ∈ xws := xws_in (List.mem_append_left _ (List.mem_of_getElem? (i := 31) rfl)) rfl
set_option maxRecDepth 100000 in
theorem ts_32 : Cond.selects "SeldomOps$Walker" ⟨"SeldomOps$Walker", "useMonitor", "(LSeldomOps$Call;I)I"⟩ ⟨"SeldomOps$Walker", "useMonitor", "(LSeldomOps$Call;I)I"⟩ ∈ xws := xws_in (List.mem_append_left _ (List.mem_of_getElem? (i := 32) rfl)) rfl
set_option maxRecDepth 100000 in
theorem ts_33 : Cond.selects "SeldomOps$Walker" ⟨"SeldomOps$Walker", "leave", "(LSeldomOps$Call;)I"⟩ ⟨"SeldomOps$Walker", "leave", "(LSeldomOps$Call;)I"⟩ ∈ xws := xws_in (List.mem_append_left _ (List.mem_of_getElem? (i := 33) rfl)) rfl
set_option maxRecDepth 100000 in
theorem ts_34 : Cond.selects "SeldomOps$Walker" ⟨"SeldomOps$Walker", "enter", "(LSeldomOps$Call;I)I"⟩ ⟨"SeldomOps$Walker", "enter", "(LSeldomOps$Call;I)I"⟩ ∈ xws := xws_in (List.mem_append_left _ (List.mem_of_getElem? (i := 34) rfl)) rfl
set_option maxRecDepth 100000 in
theorem ts_35 : Cond.selects "SeldomOps$Walker" ⟨"SeldomOps$Walker", "raise", "(III)V"⟩ ⟨"SeldomOps$Walker", "raise", "(III)V"⟩ ∈ xws := xws_in (List.mem_append_left _ (List.mem_of_getElem? (i := 35) rfl)) rfl
set_option maxRecDepth 100000 in
theorem ts_36 : Cond.selects "SeldomOps$Walker" ⟨"SeldomOps$Walker", "letGoAll", "(LSeldomOps$Call;)V"⟩ ⟨"SeldomOps$Walker", "letGoAll", "(LSeldomOps$Call;)V"⟩ ∈ xws := xws_in (List.mem_append_left _ (List.mem_of_getElem? (i := 36) rfl)) rfl
set_option maxRecDepth 100000 in
theorem ts_37 : Cond.selects "SeldomOpsModel" ⟨"SeldomOpsModel", "change", "()V"⟩ ⟨"SeldomOpsModel", "change", "()V"⟩ ∈ xws := xws_in (List.mem_append_left _ (List.mem_of_getElem? (i := 37) rfl)) rfl
set_option maxRecDepth 100000 in
theorem ts_38 : Cond.selects "SeldomOpsModel" ⟨"SeldomOpsModel", "isMethod", "(I)Z"⟩ ⟨"SeldomOpsModel", "isMethod", "(I)Z"⟩ ∈ xws := xws_in (List.mem_append_left _ (List.mem_of_getElem? (i := 38) rfl)) rfl
set_option maxRecDepth 100000 in
theorem ts_39 : Cond.selects "SeldomOpsModel" ⟨"SeldomOpsModel", "wrong", "(III)I"⟩ ⟨"SeldomOpsModel", "wrong", "(III)I"⟩ ∈ xws := xws_in (List.mem_append_left _ (List.mem_of_getElem? (i := 39) rfl)) rfl
set_option maxRecDepth 100000 in
theorem ts_40 : Cond.selects "SeldomOpsModel" ⟨"SeldomOpsModel", "store", "(II)V"⟩ ⟨"SeldomOpsModel", "store", "(II)V"⟩ ∈ xws := xws_in (List.mem_append_left _ (List.mem_of_getElem? (i := 40) rfl)) rfl
set_option maxRecDepth 100000 in
theorem ts_41 : Cond.selects "SeldomOpsModel" ⟨"SeldomOpsModel", "come", "(II)I"⟩ ⟨"SeldomOpsModel", "come", "(II)I"⟩ ∈ xws := xws_in (List.mem_append_left _ (List.mem_of_getElem? (i := 41) rfl)) rfl
set_option maxRecDepth 100000 in
theorem ts_42 : Cond.selects "SeldomOpsModel" ⟨"SeldomOpsModel", "done", "(II)I"⟩ ⟨"SeldomOpsModel", "done", "(II)I"⟩ ∈ xws := xws_in (List.mem_append_left _ (List.mem_of_getElem? (i := 42) rfl)) rfl
set_option maxRecDepth 100000 in
theorem ts_43 : Cond.selects "SeldomOpsModel" ⟨"SeldomOpsModel", "load", "(II)V"⟩ ⟨"SeldomOpsModel", "load", "(II)V"⟩ ∈ xws := xws_in (List.mem_append_left _ (List.mem_of_getElem? (i := 43) rfl)) rfl
set_option maxRecDepth 100000 in
theorem ts_44 : Cond.selects "SeldomOpsModel" ⟨"SeldomOpsModel", "isOdd", "(III)Z"⟩ ⟨"SeldomOpsModel", "isOdd", "(III)Z"⟩ ∈ xws := xws_in (List.mem_append_left _ (List.mem_of_getElem? (i := 44) rfl)) rfl
set_option maxRecDepth 100000 in
theorem ts_45 : Cond.selects "SeldomOpsModel" ⟨"SeldomOpsModel", "isLost", "(IIII)Z"⟩ ⟨"SeldomOpsModel", "isLost", "(IIII)Z"⟩ ∈ xws := xws_in (List.mem_append_left _ (List.mem_of_getElem? (i := 45) rfl)) rfl
set_option maxRecDepth 100000 in
theorem ts_46 : Cond.selects "SeldomOpsModel" ⟨"SeldomOpsModel", "covers", "(II)Z"⟩ ⟨"SeldomOpsModel", "covers", "(II)Z"⟩ ∈ xws := xws_in (List.mem_append_left _ (List.mem_of_getElem? (i := 46) rfl)) rfl
set_option maxRecDepth 100000 in
theorem ts_47 : Cond.selects "SeldomOpsModel" ⟨"SeldomOpsModel", "moves", "(I)Z"⟩ ⟨"SeldomOpsModel", "moves", "(I)Z"⟩ ∈ xws := xws_in (List.mem_append_left _ (List.mem_of_getElem? (i := 47) rfl)) rfl
set_option maxRecDepth 100000 in
theorem ts_48 : Cond.selects "SeldomOpsModel" ⟨"SeldomOpsModel", "isWhole", "(I)Z"⟩ ⟨"SeldomOpsModel", "isWhole", "(I)Z"⟩ ∈ xws := xws_in (List.mem_append_left _ (List.mem_of_getElem? (i := 48) rfl)) rfl
set_option maxRecDepth 100000 in
theorem ts_49 : Cond.selects "SeldomOpsModel" ⟨"SeldomOpsModel", "copies", "(II)Z"⟩ ⟨"SeldomOpsModel", "copies", "(II)Z"⟩ ∈ xws := xws_in (List.mem_append_left _ (List.mem_of_getElem? (i := 49) rfl)) rfl
set_option maxRecDepth 100000 in
theorem ts_50 : Cond.selects "SeldomOpsModel" ⟨"SeldomOpsModel", "works", "(IIII)Z"⟩ ⟨"SeldomOpsModel", "works", "(IIII)Z"⟩ ∈ xws := xws_in (List.mem_append_left _ (List.mem_of_getElem? (i := 50) rfl)) rfl
set_option maxRecDepth 100000 in
theorem ts_51 : Cond.selects "SeldomOpsModel" ⟨"SeldomOpsModel", "push", "(I)V"⟩ ⟨"SeldomOpsModel", "push", "(I)V"⟩ ∈ xws := xws_in (List.mem_append_left _ (List.mem_of_getElem? (i := 51) rfl)) rfl
set_option maxRecDepth 100000 in
theorem ts_52 : Cond.selects "SeldomOpsModel" ⟨"SeldomOpsModel", "pop", "(I)Z"⟩ ⟨"SeldomOpsModel", "pop", "(I)Z"⟩ ∈ xws := xws_in (List.mem_append_left _ (List.mem_of_getElem? (i := 52) rfl)) rfl
set_option maxRecDepth 100000 in
theorem ts_53 : Cond.selects "SeldomOpsModel" ⟨"SeldomOpsModel", "isIn", "(II)Z"⟩ ⟨"SeldomOpsModel", "isIn", "(II)Z"⟩ ∈ xws := xws_in (List.mem_append_left _ (List.mem_of_getElem? (i := 53) rfl)) rfl
set_option maxRecDepth 100000 in
theorem ts_54 : Cond.selects "SeldomOpsModel" ⟨"SeldomOpsModel", "keep", "()V"⟩ ⟨"SeldomOpsModel", "keep", "()V"⟩ ∈ xws := xws_in (List.mem_append_left _ (List.mem_of_getElem? (i := 54) rfl)) rfl
set_option maxRecDepth 100000 in
theorem ts_55 : Cond.selects "SeldomOpsModel" ⟨"SeldomOpsModel", "sendOn", "(IIIIZ)I"⟩ ⟨"SeldomOpsModel", "sendOn", "(IIIIZ)I"⟩ ∈ xws := xws_in (List.mem_append_left _ (List.mem_of_getElem? (i := 55) rfl)) rfl
set_option maxRecDepth 100000 in
theorem ts_56 : Cond.selects "SeldomOpsModel" ⟨"SeldomOpsModel", "goOn", "(II)I"⟩ ⟨"SeldomOpsModel", "goOn", "(II)I"⟩ ∈ xws := xws_in (List.mem_append_left _ (List.mem_of_getElem? (i := 56) rfl)) rfl
set_option maxRecDepth 100000 in
theorem ts_57 : Cond.selects "SeldomOpsModel" ⟨"SeldomOpsModel", "beginCall", "(I)V"⟩ ⟨"SeldomOpsModel", "beginCall", "(I)V"⟩ ∈ xws := xws_in (List.mem_append_left _ (List.mem_of_getElem? (i := 57) rfl)) rfl
set_option maxRecDepth 100000 in
theorem ts_58 : Cond.selects "SeldomOpsModel" ⟨"SeldomOpsModel", "begin", "(I)V"⟩ ⟨"SeldomOpsModel", "begin", "(I)V"⟩ ∈ xws := xws_in (List.mem_append_left _ (List.mem_of_getElem? (i := 58) rfl)) rfl
set_option maxRecDepth 100000 in
theorem ts_59 : Cond.selects "SeldomOpsModel" ⟨"SeldomOpsModel", "moveWords", "(II)V"⟩ ⟨"SeldomOpsModel", "moveWords", "(II)V"⟩ ∈ xws := xws_in (List.mem_append_left _ (List.mem_of_getElem? (i := 59) rfl)) rfl
set_option maxRecDepth 100000 in
theorem ts_60 : Cond.selects "SeldomOpsModel" ⟨"SeldomOpsModel", "plain", "(IIII)V"⟩ ⟨"SeldomOpsModel", "plain", "(IIII)V"⟩ ∈ xws := xws_in (List.mem_append_left _ (List.mem_of_getElem? (i := 60) rfl)) rfl
set_option maxRecDepth 100000 in
theorem ts_61 : Cond.selects "SeldomOpsModel" ⟨"SeldomOpsModel", "put", "(IIJ)V"⟩ ⟨"SeldomOpsModel", "put", "(IIJ)V"⟩ ∈ xws := xws_in (List.mem_append_left _ (List.mem_of_getElem? (i := 61) rfl)) rfl
set_option maxRecDepth 100000 in
theorem ts_62 : Cond.selects "SeldomOpsModel" ⟨"SeldomOpsModel", "take", "(II)J"⟩ ⟨"SeldomOpsModel", "take", "(II)J"⟩ ∈ xws := xws_in (List.mem_append_left _ (List.mem_of_getElem? (i := 62) rfl)) rfl
set_option maxRecDepth 100000 in
theorem ts_63 : Cond.selects "SeldomOpsModel" ⟨"SeldomOpsModel", "number3", "(IIII)V"⟩ ⟨"SeldomOpsModel", "number3", "(IIII)V"⟩ ∈ xws := xws_in (List.mem_append_left _ (List.mem_of_getElem? (i := 63) rfl)) rfl
set_option maxRecDepth 100000 in
theorem ts_64 : Cond.selects "SeldomOpsModel" ⟨"SeldomOpsModel", "fail", "(I)V"⟩ ⟨"SeldomOpsModel", "fail", "(I)V"⟩ ∈ xws := xws_in (List.mem_append_left _ (List.mem_of_getElem? (i := 64) rfl)) rfl
set_option maxRecDepth 100000 in
theorem ts_65 : Cond.selects "SeldomOpsModel" ⟨"SeldomOpsModel", "leads", "(IIII)Z"⟩ ⟨"SeldomOpsModel", "leads", "(IIII)Z"⟩ ∈ xws := xws_in (List.mem_append_left _ (List.mem_of_getElem? (i := 65) rfl)) rfl
set_option maxRecDepth 100000 in
theorem ts_66 : Cond.selects "SeldomOpsModel" ⟨"SeldomOpsModel", "takeInt", "(I)I"⟩ ⟨"SeldomOpsModel", "takeInt", "(I)I"⟩ ∈ xws := xws_in (List.mem_append_left _ (List.mem_of_getElem? (i := 66) rfl)) rfl
set_option maxRecDepth 100000 in
theorem ts_67 : Cond.selects "SeldomOpsModel" ⟨"SeldomOpsModel", "thing3", "(IIII)V"⟩ ⟨"SeldomOpsModel", "thing3", "(IIII)V"⟩ ∈ xws := xws_in (List.mem_append_left _ (List.mem_of_getElem? (i := 67) rfl)) rfl
set_option maxRecDepth 100000 in
theorem ts_68 : Cond.selects "SeldomOpsModel" ⟨"SeldomOpsModel", "newArray", "(III)V"⟩ ⟨"SeldomOpsModel", "newArray", "(III)V"⟩ ∈ xws := xws_in (List.mem_append_left _ (List.mem_of_getElem? (i := 68) rfl)) rfl
set_option maxRecDepth 100000 in
theorem ts_69 : Cond.selects "SeldomOpsModel" ⟨"SeldomOpsModel", "newThing", "(II)I"⟩ ⟨"SeldomOpsModel", "newThing", "(II)I"⟩ ∈ xws := xws_in (List.mem_append_left _ (List.mem_of_getElem? (i := 69) rfl)) rfl
set_option maxRecDepth 100000 in
theorem ts_70 : Cond.selects "SeldomOpsModel" ⟨"SeldomOpsModel", "cellOf", "(III)V"⟩ ⟨"SeldomOpsModel", "cellOf", "(III)V"⟩ ∈ xws := xws_in (List.mem_append_left _ (List.mem_of_getElem? (i := 70) rfl)) rfl
set_option maxRecDepth 100000 in
theorem ts_71 : Cond.selects "SeldomOpsModel" ⟨"SeldomOpsModel", "isArray", "(I)Z"⟩ ⟨"SeldomOpsModel", "isArray", "(I)Z"⟩ ∈ xws := xws_in (List.mem_append_left _ (List.mem_of_getElem? (i := 71) rfl)) rfl
set_option maxRecDepth 100000 in
theorem ts_72 : Cond.selects "SeldomOpsModel" ⟨"SeldomOpsModel", "callOrEnd", "(III)V"⟩ ⟨"SeldomOpsModel", "callOrEnd", "(III)V"⟩ ∈ xws := xws_in (List.mem_append_left _ (List.mem_of_getElem? (i := 72) rfl)) rfl
set_option maxRecDepth 100000 in
theorem ts_73 : Cond.selects "SeldomOpsModel" ⟨"SeldomOpsModel", "isCaught", "()Z"⟩ ⟨"SeldomOpsModel", "isCaught", "()Z"⟩ ∈ xws := xws_in (List.mem_append_left _ (List.mem_of_getElem? (i := 73) rfl)) rfl
set_option maxRecDepth 100000 in
theorem tn_26 : (Cond.methodLinkNest "SeldomOps" (9 : Nat) ({ cls := "SeldomOps$Program", name := "<init>", desc := "()V" } : MethodName) "SeldomOps") ∈ xnest := List.mem_filter.mpr ⟨List.mem_of_getElem? (i := 26) rfl, rfl⟩
set_option maxRecDepth 100000 in
theorem tn_68 : (Cond.methodLinkNest "SeldomOps$Judge" (11 : Nat) ({ cls := "SeldomOps$Shape", name := "<init>", desc := "()V" } : MethodName) "SeldomOps") ∈ xnest := List.mem_filter.mpr ⟨List.mem_of_getElem? (i := 68) rfl, rfl⟩
set_option maxRecDepth 100000 in
theorem tn_74 : (Cond.methodLinkNest "SeldomOps$Shape" (11 : Nat) ({ cls := "SeldomOps$Words", name := "<init>", desc := "()V" } : MethodName) "SeldomOps") ∈ xnest := List.mem_filter.mpr ⟨List.mem_of_getElem? (i := 74) rfl, rfl⟩
set_option maxRecDepth 100000 in
theorem tn_130 : (Cond.methodLinkNest "SeldomOps$Walker" (11 : Nat) ({ cls := "SeldomOps$Things", name := "<init>", desc := "()V" } : MethodName) "SeldomOps") ∈ xnest := List.mem_filter.mpr ⟨List.mem_of_getElem? (i := 130) rfl, rfl⟩
set_option maxRecDepth 100000 in
theorem tn_157 : (Cond.methodLinkNest "SeldomOps$Walker" (68 : Nat) ({ cls := "SeldomOps$Call", name := "<init>", desc := "()V" } : MethodName) "SeldomOps") ∈ xnest := List.mem_filter.mpr ⟨List.mem_of_getElem? (i := 157) rfl, rfl⟩
set_option maxRecDepth 100000 in
theorem tn_162 : (Cond.methodLinkNest "SeldomOps$Call" (27 : Nat) ({ cls := "SeldomOps$Words", name := "<init>", desc := "()V" } : MethodName) "SeldomOps") ∈ xnest := List.mem_filter.mpr ⟨List.mem_of_getElem? (i := 162) rfl, rfl⟩
set_option maxRecDepth 100000 in
theorem tn_281 : (Cond.methodLinkNest "SeldomOps$Method" (51 : Nat) ({ cls := "SeldomOps$Shapes", name := "<init>", desc := "()V" } : MethodName) "SeldomOps") ∈ xnest := List.mem_filter.mpr ⟨List.mem_of_getElem? (i := 281) rfl, rfl⟩
set_option maxRecDepth 100000 in
theorem tn_385 : (Cond.methodLinkNest "SeldomOps$Program" (37 : Nat) ({ cls := "SeldomOps", name := "within", desc := "(II)Z" } : MethodName) "SeldomOps") ∈ xnest := List.mem_filter.mpr ⟨List.mem_of_getElem? (i := 385) rfl, rfl⟩
set_option maxRecDepth 100000 in
theorem tn_396 : (Cond.methodLinkNest "SeldomOps$Method" (66 : Nat) ({ cls := "SeldomOps", name := "width", desc := "(I)I" } : MethodName) "SeldomOps") ∈ xnest := List.mem_filter.mpr ⟨List.mem_of_getElem? (i := 396) rfl, rfl⟩
set_option maxRecDepth 100000 in
theorem tn_506 : (Cond.methodLinkNest "SeldomOps$Shape" (68 : Nat) ({ cls := "SeldomOps", name := "within", desc := "(II)Z" } : MethodName) "SeldomOps") ∈ xnest := List.mem_filter.mpr ⟨List.mem_of_getElem? (i := 506) rfl, rfl⟩
set_option maxRecDepth 100000 in
theorem tn_507 : (Cond.methodLinkNest "SeldomOps$Shape" (26 : Nat) ({ cls := "SeldomOps", name := "isWide", desc := "(I)Z" } : MethodName) "SeldomOps") ∈ xnest := List.mem_filter.mpr ⟨List.mem_of_getElem? (i := 507) rfl, rfl⟩
set_option maxRecDepth 100000 in
theorem tn_508 : (Cond.methodLinkNest "SeldomOps$Shape" (30 : Nat) ({ cls := "SeldomOps", name := "endOf", desc := "(I)I" } : MethodName) "SeldomOps") ∈ xnest := List.mem_filter.mpr ⟨List.mem_of_getElem? (i := 508) rfl, rfl⟩
set_option maxRecDepth 100000 in
theorem tn_518 : (Cond.methodLinkNest "SeldomOps$Judge" (102 : Nat) ({ cls := "SeldomOps", name := "width", desc := "(I)I" } : MethodName) "SeldomOps") ∈ xnest := List.mem_filter.mpr ⟨List.mem_of_getElem? (i := 518) rfl, rfl⟩
set_option maxRecDepth 100000 in
theorem tn_561 : (Cond.methodLinkNest "SeldomOps$Judge" (159 : Nat) ({ cls := "SeldomOps", name := "within", desc := "(II)Z" } : MethodName) "SeldomOps") ∈ xnest := List.mem_filter.mpr ⟨List.mem_of_getElem? (i := 561) rfl, rfl⟩
set_option maxRecDepth 100000 in
theorem tn_562 : (Cond.methodLinkNest "SeldomOps$Judge" (165 : Nat) ({ cls := "SeldomOps", name := "isType", desc := "(I)Z" } : MethodName) "SeldomOps") ∈ xnest := List.mem_filter.mpr ⟨List.mem_of_getElem? (i := 562) rfl, rfl⟩
set_option maxRecDepth 100000 in
theorem tn_586 : (Cond.methodLinkNest "SeldomOps$Shape" (34 : Nat) ({ cls := "SeldomOps", name := "width", desc := "(I)I" } : MethodName) "SeldomOps") ∈ xnest := List.mem_filter.mpr ⟨List.mem_of_getElem? (i := 586) rfl, rfl⟩
set_option maxRecDepth 100000 in
theorem tn_599 : (Cond.methodLinkNest "SeldomOps$Judge" (195 : Nat) ({ cls := "SeldomOps", name := "kindCompared", desc := "(I)I" } : MethodName) "SeldomOps") ∈ xnest := List.mem_filter.mpr ⟨List.mem_of_getElem? (i := 599) rfl, rfl⟩
set_option maxRecDepth 100000 in
theorem tn_606 : (Cond.methodLinkNest "SeldomOps$Judge" (201 : Nat) ({ cls := "SeldomOps", name := "kindOfCell", desc := "(I)I" } : MethodName) "SeldomOps") ∈ xnest := List.mem_filter.mpr ⟨List.mem_of_getElem? (i := 606) rfl, rfl⟩
set_option maxRecDepth 100000 in
theorem tn_618 : (Cond.fieldLinkNest "SeldomOps$Shape" (49 : Nat) "SeldomOps" "MOVE_UPPER" "[I" "SeldomOps") ∈ xnest := List.mem_filter.mpr ⟨List.mem_of_getElem? (i := 618) rfl, rfl⟩
set_option maxRecDepth 100000 in
theorem tn_620 : (Cond.fieldLinkNest "SeldomOps$Shape" (53 : Nat) "SeldomOps" "MOVE_UNDER" "[I" "SeldomOps") ∈ xnest := List.mem_filter.mpr ⟨List.mem_of_getElem? (i := 620) rfl, rfl⟩
set_option maxRecDepth 100000 in
theorem tn_622 : (Cond.methodLinkNest "SeldomOps$Shape" (56 : Nat) ({ cls := "SeldomOps", name := "isEnd", desc := "(J)Z" } : MethodName) "SeldomOps") ∈ xnest := List.mem_filter.mpr ⟨List.mem_of_getElem? (i := 622) rfl, rfl⟩
set_option maxRecDepth 100000 in
theorem tn_647 : (Cond.fieldLinkNest "SeldomOps$Words" (39 : Nat) "SeldomOps" "MOVE_UPPER" "[I" "SeldomOps") ∈ xnest := List.mem_filter.mpr ⟨List.mem_of_getElem? (i := 647) rfl, rfl⟩
set_option maxRecDepth 100000 in
theorem tn_654 : (Cond.fieldLinkNest "SeldomOps$Words" (47 : Nat) "SeldomOps" "MOVE_UNDER" "[I" "SeldomOps") ∈ xnest := List.mem_filter.mpr ⟨List.mem_of_getElem? (i := 654) rfl, rfl⟩
set_option maxRecDepth 100000 in
theorem tn_731 : (Cond.methodLinkNest "SeldomOps$Walker" (150 : Nat) ({ cls := "SeldomOps", name := "isWide", desc := "(I)Z" } : MethodName) "SeldomOps") ∈ xnest := List.mem_filter.mpr ⟨List.mem_of_getElem? (i := 731) rfl, rfl⟩
set_option maxRecDepth 100000 in
theorem tn_736 : (Cond.methodLinkNest "SeldomOps$Call" (46 : Nat) ({ cls := "SeldomOps", name := "within", desc := "(II)Z" } : MethodName) "SeldomOps") ∈ xnest := List.mem_filter.mpr ⟨List.mem_of_getElem? (i := 736) rfl, rfl⟩
set_option maxRecDepth 100000 in
theorem tn_737 : (Cond.methodLinkNest "SeldomOps$Walker" (92 : Nat) ({ cls := "SeldomOps", name := "width", desc := "(I)I" } : MethodName) "SeldomOps") ∈ xnest := List.mem_filter.mpr ⟨List.mem_of_getElem? (i := 737) rfl, rfl⟩
set_option maxRecDepth 100000 in
theorem tn_758 : (Cond.methodLinkNest "SeldomOps$Words" (25 : Nat) ({ cls := "SeldomOps", name := "isWide", desc := "(I)Z" } : MethodName) "SeldomOps") ∈ xnest := List.mem_filter.mpr ⟨List.mem_of_getElem? (i := 758) rfl, rfl⟩
set_option maxRecDepth 100000 in
theorem tn_793 : (Cond.methodLinkNest "SeldomOps$Walker" (216 : Nat) ({ cls := "SeldomOps", name := "kindCompared", desc := "(I)I" } : MethodName) "SeldomOps") ∈ xnest := List.mem_filter.mpr ⟨List.mem_of_getElem? (i := 793) rfl, rfl⟩
set_option maxRecDepth 100000 in
theorem tn_836 : (Cond.methodLinkNest "SeldomOps$Walker" (271 : Nat) ({ cls := "SeldomOps$Things", name := "makeRow", desc := "(LSeldomOps$Things;I[III)I" } : MethodName) "SeldomOps") ∈ xnest := List.mem_filter.mpr ⟨List.mem_of_getElem? (i := 836) rfl, rfl⟩
set_option maxRecDepth 100000 in
theorem tn_867 : (Cond.methodLinkNest "SeldomOps$Things" (29 : Nat) ({ cls := "SeldomOps", name := "within", desc := "(II)Z" } : MethodName) "SeldomOps") ∈ xnest := List.mem_filter.mpr ⟨List.mem_of_getElem? (i := 867) rfl, rfl⟩
set_option maxRecDepth 100000 in
theorem tn_868 : (Cond.methodLinkNest "SeldomOps$Walker" (278 : Nat) ({ cls := "SeldomOps", name := "kindOfCell", desc := "(I)I" } : MethodName) "SeldomOps") ∈ xnest := List.mem_filter.mpr ⟨List.mem_of_getElem? (i := 868) rfl, rfl⟩
set_option maxRecDepth 100000 in
theorem tn_909 : (Cond.methodLinkNest "SeldomOps$Walker" (141 : Nat) ({ cls := "SeldomOps", name := "within", desc := "(II)Z" } : MethodName) "SeldomOps") ∈ xnest := List.mem_filter.mpr ⟨List.mem_of_getElem? (i := 909) rfl, rfl⟩
