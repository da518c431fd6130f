set_option maxRecDepth 100000 in
theorem tw_16 : (Cond.classLink "SeldomOpsLaw" (7 : Nat) "SeldomOps") ∈ xws := xws_in (List.mem_append_right _ (List.mem_of_getElem? (i := 16) rfl)) rfl
set_option maxRecDepth 100000 in
theorem tw_17 : (Cond.instantiable "SeldomOps" (5 : Nat)) ∈ xws := xws_in (List.mem_append_right _ (List.mem_of_getElem? (i := 17) rfl)) rfl
set_option maxRecDepth 100000 in
theorem tw_18 : (Cond.methodLink "SeldomOpsLaw" (9 : Nat) ({ cls := "SeldomOps", name := "<init>", desc := "()V" } : MethodName)) ∈ xws := xws_in (List.mem_append_right _ (List.mem_of_getElem? (i := 18) rfl)) rfl
set_option maxRecDepth 100000 in
theorem tw_19 : (Cond.instanceMethod ({ cls := "SeldomOps", name := "<init>", desc := "()V" } : MethodName)) ∈ xws := xws_in (List.mem_append_right _ (List.mem_of_getElem? (i := 19) rfl)) rfl
set_option maxRecDepth 100000 in
theorem tw_20 : (Cond.code ({ cls := "SeldomOps", name := "<init>", desc := "()V" } : MethodName) prog_1_method_1_code (1 : Nat) (Option.none : Option FieldType)) ∈ xws := xws_in (List.mem_append_right _ (List.mem_of_getElem? (i := 20) rfl)) rfl
set_option maxRecDepth 100000 in
theorem tw_259 : (Cond.methodLink "SeldomOpsLaw" (13 : Nat) ({ cls := "SeldomOps", name := "method", desc := "(I)I" } : MethodName)) ∈ xws := xws_in (List.mem_append_right _ (List.mem_of_getElem? (i := 259) rfl)) rfl
set_option maxRecDepth 100000 in
theorem tw_260 : (Cond.instanceMethod ({ cls := "SeldomOps", name := "method", desc := "(I)I" } : MethodName)) ∈ xws := xws_in (List.mem_append_right _ (List.mem_of_getElem? (i := 260) rfl)) rfl
set_option maxRecDepth 100000 in
theorem tw_261 : (Cond.selects "SeldomOps" ({ cls := "SeldomOps", name := "method", desc := "(I)I" } : MethodName) ({ cls := "SeldomOps", name := "method", desc := "(I)I" } : MethodName)) ∈ xws := xws_in (List.mem_append_right _ (List.mem_of_getElem? (i := 261) rfl)) rfl
set_option maxRecDepth 100000 in
theorem tw_262 : (Cond.code ({ cls := "SeldomOps", name := "method", desc := "(I)I" } : MethodName) prog_1_method_2_code (2 : Nat) (Option.some FieldType.int)) ∈ xws := xws_in (List.mem_append_right _ (List.mem_of_getElem? (i := 262) rfl)) rfl
set_option maxRecDepth 100000 in
theorem tw_377 : (Cond.methodLink "SeldomOpsLaw" (18 : Nat) ({ cls := "SeldomOps", name := "argument", desc := "(II)I" } : MethodName)) ∈ xws := xws_in (List.mem_append_right _ (List.mem_of_getElem? (i := 377) rfl)) rfl
set_option maxRecDepth 100000 in
theorem tw_378 : (Cond.instanceMethod ({ cls := "SeldomOps", name := "argument", desc := "(II)I" } : MethodName)) ∈ xws := xws_in (List.mem_append_right _ (List.mem_of_getElem? (i := 378) rfl)) rfl
set_option maxRecDepth 100000 in
theorem tw_379 : (Cond.selects "SeldomOps" ({ cls := "SeldomOps", name := "argument", desc := "(II)I" } : MethodName) ({ cls := "SeldomOps", name := "argument", desc := "(II)I" } : MethodName)) ∈ xws := xws_in (List.mem_append_right _ (List.mem_of_getElem? (i := 379) rfl)) rfl
set_option maxRecDepth 100000 in
theorem tw_380 : (Cond.code ({ cls := "SeldomOps", name := "argument", desc := "(II)I" } : MethodName) prog_1_method_3_code (4 : Nat) (Option.some FieldType.int)) ∈ xws := xws_in (List.mem_append_right _ (List.mem_of_getElem? (i := 380) rfl)) rfl
set_option maxRecDepth 100000 in
theorem tw_397 : (Cond.methodLink "SeldomOpsLaw" (23 : Nat) ({ cls := "SeldomOps", name := "op", desc := "(IIII)I" } : MethodName)) ∈ xws := xws_in (List.mem_append_right _ (List.mem_of_getElem? (i := 397) rfl)) rfl
set_option maxRecDepth 100000 in
theorem tw_398 : (Cond.instanceMethod ({ cls := "SeldomOps", name := "op", desc := "(IIII)I" } : MethodName)) ∈ xws := xws_in (List.mem_append_right _ (List.mem_of_getElem? (i := 398) rfl)) rfl
set_option maxRecDepth 100000 in
theorem tw_399 : (Cond.selects "SeldomOps" ({ cls := "SeldomOps", name := "op", desc := "(IIII)I" } : MethodName) ({ cls := "SeldomOps", name := "op", desc := "(IIII)I" } : MethodName)) ∈ xws := xws_in (List.mem_append_right _ (List.mem_of_getElem? (i := 399) rfl)) rfl
set_option maxRecDepth 100000 in
theorem tw_400 : (Cond.code ({ cls := "SeldomOps", name := "op", desc := "(IIII)I" } : MethodName) prog_1_method_4_code (7 : Nat) (Option.some FieldType.int)) ∈ xws := xws_in (List.mem_append_right _ (List.mem_of_getElem? (i := 400) rfl)) rfl
set_option maxRecDepth 100000 in
theorem tw_405 : (Cond.methodLink "SeldomOpsLaw" (28 : Nat) ({ cls := "SeldomOps", name := "alter", desc := "(IIIII)I" } : MethodName)) ∈ xws := xws_in (List.mem_append_right _ (List.mem_of_getElem? (i := 405) rfl)) rfl
set_option maxRecDepth 100000 in
theorem tw_406 : (Cond.instanceMethod ({ cls := "SeldomOps", name := "alter", desc := "(IIIII)I" } : MethodName)) ∈ xws := xws_in (List.mem_append_right _ (List.mem_of_getElem? (i := 406) rfl)) rfl
set_option maxRecDepth 100000 in
theorem tw_407 : (Cond.selects "SeldomOps" ({ cls := "SeldomOps", name := "alter", desc := "(IIIII)I" } : MethodName) ({ cls := "SeldomOps", name := "alter", desc := "(IIIII)I" } : MethodName)) ∈ xws := xws_in (List.mem_append_right _ (List.mem_of_getElem? (i := 407) rfl)) rfl
set_option maxRecDepth 100000 in
theorem tw_408 : (Cond.code ({ cls := "SeldomOps", name := "alter", desc := "(IIIII)I" } : MethodName) prog_1_method_5_code (7 : Nat) (Option.some FieldType.int)) ∈ xws := xws_in (List.mem_append_right _ (List.mem_of_getElem? (i := 408) rfl)) rfl
set_option maxRecDepth 100000 in
theorem tw_409 : (Cond.methodLink "SeldomOpsLaw" (33 : Nat) ({ cls := "SeldomOps", name := "handler", desc := "(IIIII)I" } : MethodName)) ∈ xws := xws_in (List.mem_append_right _ (List.mem_of_getElem? (i := 409) rfl)) rfl
set_option maxRecDepth 100000 in
theorem tw_410 : (Cond.instanceMethod ({ cls := "SeldomOps", name := "handler", desc := "(IIIII)I" } : MethodName)) ∈ xws := xws_in (List.mem_append_right _ (List.mem_of_getElem? (i := 410) rfl)) rfl
set_option maxRecDepth 100000 in
theorem tw_411 : (Cond.selects "SeldomOps" ({ cls := "SeldomOps", name := "handler", desc := "(IIIII)I" } : MethodName) ({ cls := "SeldomOps", name := "handler", desc := "(IIIII)I" } : MethodName)) ∈ xws := xws_in (List.mem_append_right _ (List.mem_of_getElem? (i := 411) rfl)) rfl
set_option maxRecDepth 100000 in
theorem tw_412 : (Cond.code ({ cls := "SeldomOps", name := "handler", desc := "(IIIII)I" } : MethodName) prog_1_method_6_code (7 : Nat) (Option.some FieldType.int)) ∈ xws := xws_in (List.mem_append_right _ (List.mem_of_getElem? (i := 412) rfl)) rfl
set_option maxRecDepth 100000 in
theorem tw_417 : (Cond.methodLink "SeldomOpsLaw" (39 : Nat) ({ cls := "SeldomOps", name := "constant", desc := "(J)I" } : MethodName)) ∈ xws := xws_in (List.mem_append_right _ (List.mem_of_getElem? (i := 417) rfl)) rfl
set_option maxRecDepth 100000 in
theorem tw_418 : (Cond.instanceMethod ({ cls := "SeldomOps", name := "constant", desc := "(J)I" } : MethodName)) ∈ xws := xws_in (List.mem_append_right _ (List.mem_of_getElem? (i := 418) rfl)) rfl
set_option maxRecDepth 100000 in
theorem tw_419 : (Cond.selects "SeldomOps" ({ cls := "SeldomOps", name := "constant", desc := "(J)I" } : MethodName) ({ cls := "SeldomOps", name := "constant", desc := "(J)I" } : MethodName)) ∈ xws := xws_in (List.mem_append_right _ (List.mem_of_getElem? (i := 419) rfl)) rfl
set_option maxRecDepth 100000 in
theorem tw_420 : (Cond.code ({ cls := "SeldomOps", name := "constant", desc := "(J)I" } : MethodName) prog_1_method_7_code (3 : Nat) (Option.some FieldType.int)) ∈ xws := xws_in (List.mem_append_right _ (List.mem_of_getElem? (i := 420) rfl)) rfl
set_option maxRecDepth 100000 in
theorem tw_425 : (Cond.methodLink "SeldomOpsLaw" (44 : Nat) ({ cls := "SeldomOps", name := "table", desc := "(ZII)I" } : MethodName)) ∈ xws := xws_in (List.mem_append_right _ (List.mem_of_getElem? (i := 425) rfl)) rfl
set_option maxRecDepth 100000 in
theorem tw_426 : (Cond.instanceMethod ({ cls := "SeldomOps", name := "table", desc := "(ZII)I" } : MethodName)) ∈ xws := xws_in (List.mem_append_right _ (List.mem_of_getElem? (i := 426) rfl)) rfl
set_option maxRecDepth 100000 in
theorem tw_427 : (Cond.selects "SeldomOps" ({ cls := "SeldomOps", name := "table", desc := "(ZII)I" } : MethodName) ({ cls := "SeldomOps", name := "table", desc := "(ZII)I" } : MethodName)) ∈ xws := xws_in (List.mem_append_right _ (List.mem_of_getElem? (i := 427) rfl)) rfl
set_option maxRecDepth 100000 in
theorem tw_428 : (Cond.code ({ cls := "SeldomOps", name := "table", desc := "(ZII)I" } : MethodName) prog_1_method_8_code (4 : Nat) (Option.some FieldType.int)) ∈ xws := xws_in (List.mem_append_right _ (List.mem_of_getElem? (i := 428) rfl)) rfl
set_option maxRecDepth 100000 in
theorem tw_461 : (Cond.methodLink "SeldomOpsLaw" (49 : Nat) ({ cls := "SeldomOps", name := "entry", desc := "(III)I" } : MethodName)) ∈ xws := xws_in (List.mem_append_right _ (List.mem_of_getElem? (i := 461) rfl)) rfl
set_option maxRecDepth 100000 in
theorem tw_462 : (Cond.instanceMethod ({ cls := "SeldomOps", name := "entry", desc := "(III)I" } : MethodName)) ∈ xws := xws_in (List.mem_append_right _ (List.mem_of_getElem? (i := 462) rfl)) rfl
set_option maxRecDepth 100000 in
theorem tw_463 : (Cond.selects "SeldomOps" ({ cls := "SeldomOps", name := "entry", desc := "(III)I" } : MethodName) ({ cls := "SeldomOps", name := "entry", desc := "(III)I" } : MethodName)) ∈ xws := xws_in (List.mem_append_right _ (List.mem_of_getElem? (i := 463) rfl)) rfl
set_option maxRecDepth 100000 in
theorem tw_464 : (Cond.code ({ cls := "SeldomOps", name := "entry", desc := "(III)I" } : MethodName) prog_1_method_9_code (5 : Nat) (Option.some FieldType.int)) ∈ xws := xws_in (List.mem_append_right _ (List.mem_of_getElem? (i := 464) rfl)) rfl
set_option maxRecDepth 100000 in
theorem tw_477 : (Cond.methodLink "SeldomOpsLaw" (54 : Nat) ({ cls := "SeldomOps", name := "count", desc := "(I)I" } : MethodName)) ∈ xws := xws_in (List.mem_append_right _ (List.mem_of_getElem? (i := 477) rfl)) rfl
set_option maxRecDepth 100000 in
theorem tw_478 : (Cond.instanceMethod ({ cls := "SeldomOps", name := "count", desc := "(I)I" } : MethodName)) ∈ xws := xws_in (List.mem_append_right _ (List.mem_of_getElem? (i := 478) rfl)) rfl
set_option maxRecDepth 100000 in
theorem tw_479 : (Cond.selects "SeldomOps" ({ cls := "SeldomOps", name := "count", desc := "(I)I" } : MethodName) ({ cls := "SeldomOps", name := "count", desc := "(I)I" } : MethodName)) ∈ xws := xws_in (List.mem_append_right _ (List.mem_of_getElem? (i := 479) rfl)) rfl
set_option maxRecDepth 100000 in
theorem tw_480 : (Cond.code ({ cls := "SeldomOps", name := "count", desc := "(I)I" } : MethodName) prog_1_method_10_code (2 : Nat) (Option.some FieldType.int)) ∈ xws := xws_in (List.mem_append_right _ (List.mem_of_getElem? (i := 480) rfl)) rfl
set_option maxRecDepth 100000 in
theorem tw_481 : (Cond.methodLink "SeldomOpsLaw" (58 : Nat) ({ cls := "SeldomOps", name := "judge", desc := "(I)I" } : MethodName)) ∈ xws := xws_in (List.mem_append_right _ (List.mem_of_getElem? (i := 481) rfl)) rfl
set_option maxRecDepth 100000 in
theorem tw_482 : (Cond.instanceMethod ({ cls := "SeldomOps", name := "judge", desc := "(I)I" } : MethodName)) ∈ xws := xws_in (List.mem_append_right _ (List.mem_of_getElem? (i := 482) rfl)) rfl
set_option maxRecDepth 100000 in
theorem tw_483 : (Cond.selects "SeldomOps" ({ cls := "SeldomOps", name := "judge", desc := "(I)I" } : MethodName) ({ cls := "SeldomOps", name := "judge", desc := "(I)I" } : MethodName)) ∈ xws := xws_in (List.mem_append_right _ (List.mem_of_getElem? (i := 483) rfl)) rfl
set_option maxRecDepth 100000 in
theorem tw_484 : (Cond.code ({ cls := "SeldomOps", name := "judge", desc := "(I)I" } : MethodName) prog_1_method_11_code (3 : Nat) (Option.some FieldType.int)) ∈ xws := xws_in (List.mem_append_right _ (List.mem_of_getElem? (i := 484) rfl)) rfl
set_option maxRecDepth 100000 in
theorem tw_686 : (Cond.methodLink "SeldomOpsLaw" (62 : Nat) ({ cls := "SeldomOps", name := "fault", desc := "(I)I" } : MethodName)) ∈ xws := xws_in (List.mem_append_right _ (List.mem_of_getElem? (i := 686) rfl)) rfl
set_option maxRecDepth 100000 in
theorem tw_687 : (Cond.instanceMethod ({ cls := "SeldomOps", name := "fault", desc := "(I)I" } : MethodName)) ∈ xws := xws_in (List.mem_append_right _ (List.mem_of_getElem? (i := 687) rfl)) rfl
set_option maxRecDepth 100000 in
theorem tw_688 : (Cond.selects "SeldomOps" ({ cls := "SeldomOps", name := "fault", desc := "(I)I" } : MethodName) ({ cls := "SeldomOps", name := "fault", desc := "(I)I" } : MethodName)) ∈ xws := xws_in (List.mem_append_right _ (List.mem_of_getElem? (i := 688) rfl)) rfl
set_option maxRecDepth 100000 in
theorem tw_689 : (Cond.code ({ cls := "SeldomOps", name := "fault", desc := "(I)I" } : MethodName) prog_1_method_12_code (2 : Nat) (Option.some FieldType.int)) ∈ xws := xws_in (List.mem_append_right _ (List.mem_of_getElem? (i := 689) rfl)) rfl
set_option maxRecDepth 100000 in
theorem tw_690 : (Cond.methodLink "SeldomOpsLaw" (66 : Nat) ({ cls := "SeldomOps", name := "good", desc := "(I)I" } : MethodName)) ∈ xws := xws_in (List.mem_append_right _ (List.mem_of_getElem? (i := 690) rfl)) rfl
set_option maxRecDepth 100000 in
theorem tw_691 : (Cond.instanceMethod ({ cls := "SeldomOps", name := "good", desc := "(I)I" } : MethodName)) ∈ xws := xws_in (List.mem_append_right _ (List.mem_of_getElem? (i := 691) rfl)) rfl
set_option maxRecDepth 100000 in
theorem tw_692 : (Cond.selects "SeldomOps" ({ cls := "SeldomOps", name := "good", desc := "(I)I" } : MethodName) ({ cls := "SeldomOps", name := "good", desc := "(I)I" } : MethodName)) ∈ xws := xws_in (List.mem_append_right _ (List.mem_of_getElem? (i := 692) rfl)) rfl
set_option maxRecDepth 100000 in
theorem tw_693 : (Cond.code ({ cls := "SeldomOps", name := "good", desc := "(I)I" } : MethodName) prog_1_method_13_code (3 : Nat) (Option.some FieldType.int)) ∈ xws := xws_in (List.mem_append_right _ (List.mem_of_getElem? (i := 693) rfl)) rfl
set_option maxRecDepth 100000 in
theorem tw_694 : (Cond.methodLink "SeldomOpsLaw" (70 : Nat) ({ cls := "SeldomOps", name := "shape", desc := "(III)I" } : MethodName)) ∈ xws := xws_in (List.mem_append_right _ (List.mem_of_getElem? (i := 694) rfl)) rfl
set_option maxRecDepth 100000 in
theorem tw_695 : (Cond.instanceMethod ({ cls := "SeldomOps", name := "shape", desc := "(III)I" } : MethodName)) ∈ xws := xws_in (List.mem_append_right _ (List.mem_of_getElem? (i := 695) rfl)) rfl
set_option maxRecDepth 100000 in
theorem tw_696 : (Cond.selects "SeldomOps" ({ cls := "SeldomOps", name := "shape", desc := "(III)I" } : MethodName) ({ cls := "SeldomOps", name := "shape", desc := "(III)I" } : MethodName)) ∈ xws := xws_in (List.mem_append_right _ (List.mem_of_getElem? (i := 696) rfl)) rfl
set_option maxRecDepth 100000 in
theorem tw_697 : (Cond.code ({ cls := "SeldomOps", name := "shape", desc := "(III)I" } : MethodName) prog_1_method_14_code (5 : Nat) (Option.some FieldType.int)) ∈ xws := xws_in (List.mem_append_right _ (List.mem_of_getElem? (i := 697) rfl)) rfl
set_option maxRecDepth 100000 in
theorem tw_702 : (Cond.methodLink "SeldomOpsLaw" (74 : Nat) ({ cls := "SeldomOps", name := "give", desc := "(J)I" } : MethodName)) ∈ xws := xws_in (List.mem_append_right _ (List.mem_of_getElem? (i := 702) rfl)) rfl
set_option maxRecDepth 100000 in
theorem tw_703 : (Cond.instanceMethod ({ cls := "SeldomOps", name := "give", desc := "(J)I" } : MethodName)) ∈ xws := xws_in (List.mem_append_right _ (List.mem_of_getElem? (i := 703) rfl)) rfl
set_option maxRecDepth 100000 in
theorem tw_704 : (Cond.selects "SeldomOps" ({ cls := "SeldomOps", name := "give", desc := "(J)I" } : MethodName) ({ cls := "SeldomOps", name := "give", desc := "(J)I" } : MethodName)) ∈ xws := xws_in (List.mem_append_right _ (List.mem_of_getElem? (i := 704) rfl)) rfl
set_option maxRecDepth 100000 in
theorem tw_705 : (Cond.code ({ cls := "SeldomOps", name := "give", desc := "(J)I" } : MethodName) prog_1_method_15_code (3 : Nat) (Option.some FieldType.int)) ∈ xws := xws_in (List.mem_append_right _ (List.mem_of_getElem? (i := 705) rfl)) rfl
set_option maxRecDepth 100000 in
theorem tw_706 : (Cond.methodLink "SeldomOpsLaw" (78 : Nat) ({ cls := "SeldomOps", name := "walk", desc := "(II)I" } : MethodName)) ∈ xws := xws_in (List.mem_append_right _ (List.mem_of_getElem? (i := 706) rfl)) rfl
set_option maxRecDepth 100000 in
theorem tw_707 : (Cond.instanceMethod ({ cls := "SeldomOps", name := "walk", desc := "(II)I" } : MethodName)) ∈ xws := xws_in (List.mem_append_right _ (List.mem_of_getElem? (i := 707) rfl)) rfl
set_option maxRecDepth 100000 in
theorem tw_708 : (Cond.selects "SeldomOps" ({ cls := "SeldomOps", name := "walk", desc := "(II)I" } : MethodName) ({ cls := "SeldomOps", name := "walk", desc := "(II)I" } : MethodName)) ∈ xws := xws_in (List.mem_append_right _ (List.mem_of_getElem? (i := 708) rfl)) rfl
set_option maxRecDepth 100000 in
theorem tw_709 : (Cond.code ({ cls := "SeldomOps", name := "walk", desc := "(II)I" } : MethodName) prog_1_method_16_code (4 : Nat) (Option.some FieldType.int)) ∈ xws := xws_in (List.mem_append_right _ (List.mem_of_getElem? (i := 709) rfl)) rfl
set_option maxRecDepth 100000 in
theorem tw_934 : (Cond.methodLink "SeldomOpsLaw" (82 : Nat) ({ cls := "SeldomOps", name := "value", desc := "()J" } : MethodName)) ∈ xws := xws_in (List.mem_append_right _ (List.mem_of_getElem? (i := 934) rfl)) rfl
set_option maxRecDepth 100000 in
theorem tw_935 : (Cond.instanceMethod ({ cls := "SeldomOps", name := "value", desc := "()J" } : MethodName)) ∈ xws := xws_in (List.mem_append_right _ (List.mem_of_getElem? (i := 935) rfl)) rfl
set_option maxRecDepth 100000 in
theorem tw_936 : (Cond.selects "SeldomOps" ({ cls := "SeldomOps", name := "value", desc := "()J" } : MethodName) ({ cls := "SeldomOps", name := "value", desc := "()J" } : MethodName)) ∈ xws := xws_in (List.mem_append_right _ (List.mem_of_getElem? (i := 936) rfl)) rfl
set_option maxRecDepth 100000 in
theorem tw_937 : (Cond.code ({ cls := "SeldomOps", name := "value", desc := "()J" } : MethodName) prog_1_method_17_code (1 : Nat) (Option.some FieldType.long)) ∈ xws := xws_in (List.mem_append_right _ (List.mem_of_getElem? (i := 937) rfl)) rfl
set_option maxRecDepth 100000 in
theorem tw_938 : (Cond.methodLink "SeldomOpsLaw" (87 : Nat) ({ cls := "SeldomOps", name := "told", desc := "(I)I" } : MethodName)) ∈ xws := xws_in (List.mem_append_right _ (List.mem_of_getElem? (i := 938) rfl)) rfl
set_option maxRecDepth 100000 in
theorem tw_939 : (Cond.instanceMethod ({ cls := "SeldomOps", name := "told", desc := "(I)I" } : MethodName)) ∈ xws := xws_in (List.mem_append_right _ (List.mem_of_getElem? (i := 939) rfl)) rfl
set_option maxRecDepth 100000 in
theorem tw_940 : (Cond.selects "SeldomOps" ({ cls := "SeldomOps", name := "told", desc := "(I)I" } : MethodName) ({ cls := "SeldomOps", name := "told", desc := "(I)I" } : MethodName)) ∈ xws := xws_in (List.mem_append_right _ (List.mem_of_getElem? (i := 940) rfl)) rfl
set_option maxRecDepth 100000 in
theorem tw_941 : (Cond.code ({ cls := "SeldomOps", name := "told", desc := "(I)I" } : MethodName) prog_1_method_18_code (2 : Nat) (Option.some FieldType.int)) ∈ xws := xws_in (List.mem_append_right _ (List.mem_of_getElem? (i := 941) rfl)) rfl
set_option maxRecDepth 100000 in
theorem tw_946 : (Cond.methodLink "SeldomOpsLaw" (91 : Nat) ({ cls := "SeldomOps", name := "thing", desc := "(II)I" } : MethodName)) ∈ xws := xws_in (List.mem_append_right _ (List.mem_of_getElem? (i := 946) rfl)) rfl
set_option maxRecDepth 100000 in
theorem tw_947 : (Cond.instanceMethod ({ cls := "SeldomOps", name := "thing", desc := "(II)I" } : MethodName)) ∈ xws := xws_in (List.mem_append_right _ (List.mem_of_getElem? (i := 947) rfl)) rfl
set_option maxRecDepth 100000 in
theorem tw_948 : (Cond.selects "SeldomOps" ({ cls := "SeldomOps", name := "thing", desc := "(II)I" } : MethodName) ({ cls := "SeldomOps", name := "thing", desc := "(II)I" } : MethodName)) ∈ xws := xws_in (List.mem_append_right _ (List.mem_of_getElem? (i := 948) rfl)) rfl
set_option maxRecDepth 100000 in
theorem tw_949 : (Cond.code ({ cls := "SeldomOps", name := "thing", desc := "(II)I" } : MethodName) prog_1_method_19_code (3 : Nat) (Option.some FieldType.int)) ∈ xws := xws_in (List.mem_append_right _ (List.mem_of_getElem? (i := 949) rfl)) rfl
set_option maxRecDepth 100000 in
theorem tw_954 : (Cond.methodLink "SeldomOpsLaw" (95 : Nat) ({ cls := "SeldomOps", name := "cell", desc := "(II)J" } : MethodName)) ∈ xws := xws_in (List.mem_append_right _ (List.mem_of_getElem? (i := 954) rfl)) rfl
set_option maxRecDepth 100000 in
theorem tw_955 : (Cond.instanceMethod ({ cls := "SeldomOps", name := "cell", desc := "(II)J" } : MethodName)) ∈ xws := xws_in (List.mem_append_right _ (List.mem_of_getElem? (i := 955) rfl)) rfl
set_option maxRecDepth 100000 in
theorem tw_956 : (Cond.selects "SeldomOps" ({ cls := "SeldomOps", name := "cell", desc := "(II)J" } : MethodName) ({ cls := "SeldomOps", name := "cell", desc := "(II)J" } : MethodName)) ∈ xws := xws_in (List.mem_append_right _ (List.mem_of_getElem? (i := 956) rfl)) rfl
set_option maxRecDepth 100000 in
theorem tw_957 : (Cond.code ({ cls := "SeldomOps", name := "cell", desc := "(II)J" } : MethodName) prog_1_method_20_code (4 : Nat) (Option.some FieldType.long)) ∈ xws := xws_in (List.mem_append_right _ (List.mem_of_getElem? (i := 957) rfl)) rfl
set_option maxRecDepth 100000 in
theorem tw_961 : (Cond.classLink "SeldomOpsLaw" (10 : Nat) "SeldomOpsModel") ∈ xws := xws_in (List.mem_append_right _ (List.mem_of_getElem? (i := 961) rfl)) rfl
set_option maxRecDepth 100000 in
theorem tw_962 : (Cond.instantiable "SeldomOpsModel" (67 : Nat)) ∈ xws := xws_in (List.mem_append_right _ (List.mem_of_getElem? (i := 962) rfl)) rfl
set_option maxRecDepth 100000 in
theorem tw_963 : (Cond.methodLink "SeldomOpsLaw" (12 : Nat) ({ cls := "SeldomOpsModel", name := "<init>", desc := "()V" } : MethodName)) ∈ xws := xws_in (List.mem_append_right _ (List.mem_of_getElem? (i := 963) rfl)) rfl
set_option maxRecDepth 100000 in
theorem tw_964 : (Cond.instanceMethod ({ cls := "SeldomOpsModel", name := "<init>", desc := "()V" } : MethodName)) ∈ xws := xws_in (List.mem_append_right _ (List.mem_of_getElem? (i := 964) rfl)) rfl
set_option maxRecDepth 100000 in
theorem tw_965 : (Cond.code ({ cls := "SeldomOpsModel", name := "<init>", desc := "()V" } : MethodName) prog_14_method_1_code (1 : Nat) (Option.none : Option FieldType)) ∈ xws := xws_in (List.mem_append_right _ (List.mem_of_getElem? (i := 965) rfl)) rfl
set_option maxRecDepth 100000 in
theorem tw_1169 : (Cond.methodLink "SeldomOpsLaw" (17 : Nat) ({ cls := "SeldomOpsModel", name := "method", desc := "(I)I" } : MethodName)) ∈ xws := xws_in (List.mem_append_right _ (List.mem_of_getElem? (i := 1169) rfl)) rfl
set_option maxRecDepth 100000 in
theorem tw_1170 : (Cond.instanceMethod ({ cls := "SeldomOpsModel", name := "method", desc := "(I)I" } : MethodName)) ∈ xws := xws_in (List.mem_append_right _ (List.mem_of_getElem? (i := 1170) rfl)) rfl
set_option maxRecDepth 100000 in
theorem tw_1171 : (Cond.selects "SeldomOpsModel" ({ cls := "SeldomOpsModel", name := "method", desc := "(I)I" } : MethodName) ({ cls := "SeldomOpsModel", name := "method", desc := "(I)I" } : MethodName)) ∈ xws := xws_in (List.mem_append_right _ (List.mem_of_getElem? (i := 1171) rfl)) rfl
set_option maxRecDepth 100000 in
theorem tw_1172 : (Cond.code ({ cls := "SeldomOpsModel", name := "method", desc := "(I)I" } : MethodName) prog_14_method_6_code (2 : Nat) (Option.some FieldType.int)) ∈ xws := xws_in (List.mem_append_right _ (List.mem_of_getElem? (i := 1172) rfl)) rfl
set_option maxRecDepth 100000 in
theorem tw_1181 : (Cond.methodLink "SeldomOpsLaw" (22 : Nat) ({ cls := "SeldomOpsModel", name := "argument", desc := "(II)I" } : MethodName)) ∈ xws := xws_in (List.mem_append_right _ (List.mem_of_getElem? (i := 1181) rfl)) rfl
set_option maxRecDepth 100000 in
theorem tw_1182 : (Cond.instanceMethod ({ cls := "SeldomOpsModel", name := "argument", desc := "(II)I" } : MethodName)) ∈ xws := xws_in (List.mem_append_right _ (List.mem_of_getElem? (i := 1182) rfl)) rfl
set_option maxRecDepth 100000 in
theorem tw_1183 : (Cond.selects "SeldomOpsModel" ({ cls := "SeldomOpsModel", name := "argument", desc := "(II)I" } : MethodName) ({ cls := "SeldomOpsModel", name := "argument", desc := "(II)I" } : MethodName)) ∈ xws := xws_in (List.mem_append_right _ (List.mem_of_getElem? (i := 1183) rfl)) rfl
set_option maxRecDepth 100000 in
theorem tw_1184 : (Cond.code ({ cls := "SeldomOpsModel", name := "argument", desc := "(II)I" } : MethodName) prog_14_method_7_code (3 : Nat) (Option.some FieldType.int)) ∈ xws := xws_in (List.mem_append_right _ (List.mem_of_getElem? (i := 1184) rfl)) rfl
set_option maxRecDepth 100000 in
theorem tw_1193 : (Cond.methodLink "SeldomOpsLaw" (27 : Nat) ({ cls := "SeldomOpsModel", name := "op", desc := "(IIII)I" } : MethodName)) ∈ xws := xws_in (List.mem_append_right _ (List.mem_of_getElem? (i := 1193) rfl)) rfl
set_option maxRecDepth 100000 in
theorem tw_1194 : (Cond.instanceMethod ({ cls := "SeldomOpsModel", name := "op", desc := "(IIII)I" } : MethodName)) ∈ xws := xws_in (List.mem_append_right _ (List.mem_of_getElem? (i := 1194) rfl)) rfl
set_option maxRecDepth 100000 in
theorem tw_1195 : (Cond.selects "SeldomOpsModel" ({ cls := "SeldomOpsModel", name := "op", desc := "(IIII)I" } : MethodName) ({ cls := "SeldomOpsModel", name := "op", desc := "(IIII)I" } : MethodName)) ∈ xws := xws_in (List.mem_append_right _ (List.mem_of_getElem? (i := 1195) rfl)) rfl
set_option maxRecDepth 100000 in
theorem tw_1196 : (Cond.code ({ cls := "SeldomOpsModel", name := "op", desc := "(IIII)I" } : MethodName) prog_14_method_8_code (5 : Nat) (Option.some FieldType.int)) ∈ xws := xws_in (List.mem_append_right _ (List.mem_of_getElem? (i := 1196) rfl)) rfl
set_option maxRecDepth 100000 in
theorem tw_1202 : (Cond.methodLink "SeldomOpsLaw" (32 : Nat) ({ cls := "SeldomOpsModel", name := "alter", desc := "(IIIII)I" } : MethodName)) ∈ xws := xws_in (List.mem_append_right _ (List.mem_of_getElem? (i := 1202) rfl)) rfl
set_option maxRecDepth 100000 in
theorem tw_1203 : (Cond.methodLink "SeldomOpsLaw" (36 : Nat) ({ cls := "SeldomOpsModel", name := "handler", desc := "(IIIII)I" } : MethodName)) ∈ xws := xws_in (List.mem_append_right _ (List.mem_of_getElem? (i := 1203) rfl)) rfl
set_option maxRecDepth 100000 in
theorem tw_1204 : (Cond.instanceMethod ({ cls := "SeldomOpsModel", name := "handler", desc := "(IIIII)I" } : MethodName)) ∈ xws := xws_in (List.mem_append_right _ (List.mem_of_getElem? (i := 1204) rfl)) rfl
set_option maxRecDepth 100000 in
theorem tw_1205 : (Cond.selects "SeldomOpsModel" ({ cls := "SeldomOpsModel", name := "handler", desc := "(IIIII)I" } : MethodName) ({ cls := "SeldomOpsModel", name := "handler", desc := "(IIIII)I" } : MethodName)) ∈ xws := xws_in (List.mem_append_right _ (List.mem_of_getElem? (i := 1205) rfl)) rfl
set_option maxRecDepth 100000 in
theorem tw_1206 : (Cond.code ({ cls := "SeldomOpsModel", name := "handler", desc := "(IIIII)I" } : MethodName) prog_14_method_10_code (7 : Nat) (Option.some FieldType.int)) ∈ xws := xws_in (List.mem_append_right _ (List.mem_of_getElem? (i := 1206) rfl)) rfl
set_option maxRecDepth 100000 in
theorem tw_1211 : (Cond.methodLink "SeldomOpsLaw" (43 : Nat) ({ cls := "SeldomOpsModel", name := "constant", desc := "(J)I" } : MethodName)) ∈ xws := xws_in (List.mem_append_right _ (List.mem_of_getElem? (i := 1211) rfl)) rfl
set_option maxRecDepth 100000 in
theorem tw_1212 : (Cond.instanceMethod ({ cls := "SeldomOpsModel", name := "constant", desc := "(J)I" } : MethodName)) ∈ xws := xws_in (List.mem_append_right _ (List.mem_of_getElem? (i := 1212) rfl)) rfl
set_option maxRecDepth 100000 in
theorem tw_1213 : (Cond.selects "SeldomOpsModel" ({ cls := "SeldomOpsModel", name := "constant", desc := "(J)I" } : MethodName) ({ cls := "SeldomOpsModel", name := "constant", desc := "(J)I" } : MethodName)) ∈ xws := xws_in (List.mem_append_right _ (List.mem_of_getElem? (i := 1213) rfl)) rfl
set_option maxRecDepth 100000 in
theorem tw_1214 : (Cond.code ({ cls := "SeldomOpsModel", name := "constant", desc := "(J)I" } : MethodName) prog_14_method_11_code (3 : Nat) (Option.some FieldType.int)) ∈ xws := xws_in (List.mem_append_right _ (List.mem_of_getElem? (i := 1214) rfl)) rfl
set_option maxRecDepth 100000 in
theorem tw_1215 : (Cond.methodLink "SeldomOpsLaw" (48 : Nat) ({ cls := "SeldomOpsModel", name := "table", desc := "(ZII)I" } : MethodName)) ∈ xws := xws_in (List.mem_append_right _ (List.mem_of_getElem? (i := 1215) rfl)) rfl
set_option maxRecDepth 100000 in
theorem tw_1216 : (Cond.instanceMethod ({ cls := "SeldomOpsModel", name := "table", desc := "(ZII)I" } : MethodName)) ∈ xws := xws_in (List.mem_append_right _ (List.mem_of_getElem? (i := 1216) rfl)) rfl
set_option maxRecDepth 100000 in
theorem tw_1217 : (Cond.selects "SeldomOpsModel" ({ cls := "SeldomOpsModel", name := "table", desc := "(ZII)I" } : MethodName) ({ cls := "SeldomOpsModel", name := "table", desc := "(ZII)I" } : MethodName)) ∈ xws := xws_in (List.mem_append_right _ (List.mem_of_getElem? (i := 1217) rfl)) rfl
set_option maxRecDepth 100000 in
theorem tw_1218 : (Cond.code ({ cls := "SeldomOpsModel", name := "table", desc := "(ZII)I" } : MethodName) prog_14_method_12_code (4 : Nat) (Option.some FieldType.int)) ∈ xws := xws_in (List.mem_append_right _ (List.mem_of_getElem? (i := 1218) rfl)) rfl
set_option maxRecDepth 100000 in
theorem tw_1219 : (Cond.methodLink "SeldomOpsLaw" (53 : Nat) ({ cls := "SeldomOpsModel", name := "entry", desc := "(III)I" } : MethodName)) ∈ xws := xws_in (List.mem_append_right _ (List.mem_of_getElem? (i := 1219) rfl)) rfl
set_option maxRecDepth 100000 in
theorem tw_1220 : (Cond.instanceMethod ({ cls := "SeldomOpsModel", name := "entry", desc := "(III)I" } : MethodName)) ∈ xws := xws_in (List.mem_append_right _ (List.mem_of_getElem? (i := 1220) rfl)) rfl
set_option maxRecDepth 100000 in
theorem tw_1221 : (Cond.selects "SeldomOpsModel" ({ cls := "SeldomOpsModel", name := "entry", desc := "(III)I" } : MethodName) ({ cls := "SeldomOpsModel", name := "entry", desc := "(III)I" } : MethodName)) ∈ xws := xws_in (List.mem_append_right _ (List.mem_of_getElem? (i := 1221) rfl)) rfl
set_option maxRecDepth 100000 in
theorem tw_1222 : (Cond.code ({ cls := "SeldomOpsModel", name := "entry", desc := "(III)I" } : MethodName) prog_14_method_13_code (6 : Nat) (Option.some FieldType.int)) ∈ xws := xws_in (List.mem_append_right _ (List.mem_of_getElem? (i := 1222) rfl)) rfl
set_option maxRecDepth 100000 in
theorem tw_1223 : (Cond.methodLink "SeldomOpsLaw" (57 : Nat) ({ cls := "SeldomOpsModel", name := "count", desc := "(I)I" } : MethodName)) ∈ xws := xws_in (List.mem_append_right _ (List.mem_of_getElem? (i := 1223) rfl)) rfl
set_option maxRecDepth 100000 in
theorem tw_1224 : (Cond.instanceMethod ({ cls := "SeldomOpsModel", name := "count", desc := "(I)I" } : MethodName)) ∈ xws := xws_in (List.mem_append_right _ (List.mem_of_getElem? (i := 1224) rfl)) rfl
set_option maxRecDepth 100000 in
theorem tw_1225 : (Cond.selects "SeldomOpsModel" ({ cls := "SeldomOpsModel", name := "count", desc := "(I)I" } : MethodName) ({ cls := "SeldomOpsModel", name := "count", desc := "(I)I" } : MethodName)) ∈ xws := xws_in (List.mem_append_right _ (List.mem_of_getElem? (i := 1225) rfl)) rfl
set_option maxRecDepth 100000 in
theorem tw_1226 : (Cond.code ({ cls := "SeldomOpsModel", name := "count", desc := "(I)I" } : MethodName) prog_14_method_14_code (2 : Nat) (Option.some FieldType.int)) ∈ xws := xws_in (List.mem_append_right _ (List.mem_of_getElem? (i := 1226) rfl)) rfl
set_option maxRecDepth 100000 in
theorem tw_1227 : (Cond.methodLink "SeldomOpsLaw" (61 : Nat) ({ cls := "SeldomOpsModel", name := "judge", desc := "(I)I" } : MethodName)) ∈ xws := xws_in (List.mem_append_right _ (List.mem_of_getElem? (i := 1227) rfl)) rfl
set_option maxRecDepth 100000 in
theorem tw_1228 : (Cond.instanceMethod ({ cls := "SeldomOpsModel", name := "judge", desc := "(I)I" } : MethodName)) ∈ xws := xws_in (List.mem_append_right _ (List.mem_of_getElem? (i := 1228) rfl)) rfl
set_option maxRecDepth 100000 in
theorem tw_1229 : (Cond.selects "SeldomOpsModel" ({ cls := "SeldomOpsModel", name := "judge", desc := "(I)I" } : MethodName) ({ cls := "SeldomOpsModel", name := "judge", desc := "(I)I" } : MethodName)) ∈ xws := xws_in (List.mem_append_right _ (List.mem_of_getElem? (i := 1229) rfl)) rfl
set_option maxRecDepth 100000 in
theorem tw_1230 : (Cond.code ({ cls := "SeldomOpsModel", name := "judge", desc := "(I)I" } : MethodName) prog_14_method_30_code (5 : Nat) (Option.some FieldType.int)) ∈ xws := xws_in (List.mem_append_right _ (List.mem_of_getElem? (i := 1230) rfl)) rfl
set_option maxRecDepth 100000 in
theorem tw_1313 : (Cond.methodLink "SeldomOpsLaw" (65 : Nat) ({ cls := "SeldomOpsModel", name := "fault", desc := "(I)I" } : MethodName)) ∈ xws := xws_in (List.mem_append_right _ (List.mem_of_getElem? (i := 1313) rfl)) rfl
set_option maxRecDepth 100000 in
theorem tw_1314 : (Cond.instanceMethod ({ cls := "SeldomOpsModel", name := "fault", desc := "(I)I" } : MethodName)) ∈ xws := xws_in (List.mem_append_right _ (List.mem_of_getElem? (i := 1314) rfl)) rfl
set_option maxRecDepth 100000 in
theorem tw_1315 : (Cond.selects "SeldomOpsModel" ({ cls := "SeldomOpsModel", name := "fault", desc := "(I)I" } : MethodName) ({ cls := "SeldomOpsModel", name := "fault", desc := "(I)I" } : MethodName)) ∈ xws := xws_in (List.mem_append_right _ (List.mem_of_getElem? (i := 1315) rfl)) rfl
set_option maxRecDepth 100000 in
theorem tw_1316 : (Cond.code ({ cls := "SeldomOpsModel", name := "fault", desc := "(I)I" } : MethodName) prog_14_method_35_code (2 : Nat) (Option.some FieldType.int)) ∈ xws := xws_in (List.mem_append_right _ (List.mem_of_getElem? (i := 1316) rfl)) rfl
set_option maxRecDepth 100000 in
theorem tw_1317 : (Cond.methodLink "SeldomOpsLaw" (69 : Nat) ({ cls := "SeldomOpsModel", name := "good", desc := "(I)I" } : MethodName)) ∈ xws := xws_in (List.mem_append_right _ (List.mem_of_getElem? (i := 1317) rfl)) rfl
set_option maxRecDepth 100000 in
theorem tw_1318 : (Cond.instanceMethod ({ cls := "SeldomOpsModel", name := "good", desc := "(I)I" } : MethodName)) ∈ xws := xws_in (List.mem_append_right _ (List.mem_of_getElem? (i := 1318) rfl)) rfl
set_option maxRecDepth 100000 in
theorem tw_1319 : (Cond.selects "SeldomOpsModel" ({ cls := "SeldomOpsModel", name := "good", desc := "(I)I" } : MethodName) ({ cls := "SeldomOpsModel", name := "good", desc := "(I)I" } : MethodName)) ∈ xws := xws_in (List.mem_append_right _ (List.mem_of_getElem? (i := 1319) rfl)) rfl
set_option maxRecDepth 100000 in
theorem tw_1320 : (Cond.code ({ cls := "SeldomOpsModel", name := "good", desc := "(I)I" } : MethodName) prog_14_method_36_code (2 : Nat) (Option.some FieldType.int)) ∈ xws := xws_in (List.mem_append_right _ (List.mem_of_getElem? (i := 1320) rfl)) rfl
set_option maxRecDepth 100000 in
theorem tw_1321 : (Cond.methodLink "SeldomOpsLaw" (73 : Nat) ({ cls := "SeldomOpsModel", name := "shape", desc := "(III)I" } : MethodName)) ∈ xws := xws_in (List.mem_append_right _ (List.mem_of_getElem? (i := 1321) rfl)) rfl
set_option maxRecDepth 100000 in
theorem tw_1322 : (Cond.instanceMethod ({ cls := "SeldomOpsModel", name := "shape", desc := "(III)I" } : MethodName)) ∈ xws := xws_in (List.mem_append_right _ (List.mem_of_getElem? (i := 1322) rfl)) rfl
set_option maxRecDepth 100000 in
theorem tw_1323 : (Cond.selects "SeldomOpsModel" ({ cls := "SeldomOpsModel", name := "shape", desc := "(III)I" } : MethodName) ({ cls := "SeldomOpsModel", name := "shape", desc := "(III)I" } : MethodName)) ∈ xws := xws_in (List.mem_append_right _ (List.mem_of_getElem? (i := 1323) rfl)) rfl
set_option maxRecDepth 100000 in
theorem tw_1324 : (Cond.code ({ cls := "SeldomOpsModel", name := "shape", desc := "(III)I" } : MethodName) prog_14_method_37_code (5 : Nat) (Option.some FieldType.int)) ∈ xws := xws_in (List.mem_append_right _ (List.mem_of_getElem? (i := 1324) rfl)) rfl
set_option maxRecDepth 100000 in
theorem tw_1326 : (Cond.methodLink "SeldomOpsLaw" (77 : Nat) ({ cls := "SeldomOpsModel", name := "give", desc := "(J)I" } : MethodName)) ∈ xws := xws_in (List.mem_append_right _ (List.mem_of_getElem? (i := 1326) rfl)) rfl
set_option maxRecDepth 100000 in
theorem tw_1327 : (Cond.instanceMethod ({ cls := "SeldomOpsModel", name := "give", desc := "(J)I" } : MethodName)) ∈ xws := xws_in (List.mem_append_right _ (List.mem_of_getElem? (i := 1327) rfl)) rfl
set_option maxRecDepth 100000 in
theorem tw_1328 : (Cond.selects "SeldomOpsModel" ({ cls := "SeldomOpsModel", name := "give", desc := "(J)I" } : MethodName) ({ cls := "SeldomOpsModel", name := "give", desc := "(J)I" } : MethodName)) ∈ xws := xws_in (List.mem_append_right _ (List.mem_of_getElem? (i := 1328) rfl)) rfl
set_option maxRecDepth 100000 in
theorem tw_1329 : (Cond.code ({ cls := "SeldomOpsModel", name := "give", desc := "(J)I" } : MethodName) prog_14_method_38_code (3 : Nat) (Option.some FieldType.int)) ∈ xws := xws_in (List.mem_append_right _ (List.mem_of_getElem? (i := 1329) rfl)) rfl
set_option maxRecDepth 100000 in
theorem tw_1330 : (Cond.methodLink "SeldomOpsLaw" (81 : Nat) ({ cls := "SeldomOpsModel", name := "walk", desc := "(II)I" } : MethodName)) ∈ xws := xws_in (List.mem_append_right _ (List.mem_of_getElem? (i := 1330) rfl)) rfl
set_option maxRecDepth 100000 in
theorem tw_1331 : (Cond.instanceMethod ({ cls := "SeldomOpsModel", name := "walk", desc := "(II)I" } : MethodName)) ∈ xws := xws_in (List.mem_append_right _ (List.mem_of_getElem? (i := 1331) rfl)) rfl
set_option maxRecDepth 100000 in
theorem tw_1332 : (Cond.selects "SeldomOpsModel" ({ cls := "SeldomOpsModel", name := "walk", desc := "(II)I" } : MethodName) ({ cls := "SeldomOpsModel", name := "walk", desc := "(II)I" } : MethodName)) ∈ xws := xws_in (List.mem_append_right _ (List.mem_of_getElem? (i := 1332) rfl)) rfl
set_option maxRecDepth 100000 in
theorem tw_1333 : (Cond.code ({ cls := "SeldomOpsModel", name := "walk", desc := "(II)I" } : MethodName) prog_14_method_43_code (7 : Nat) (Option.some FieldType.int)) ∈ xws := xws_in (List.mem_append_right _ (List.mem_of_getElem? (i := 1333) rfl)) rfl
set_option maxRecDepth 100000 in
theorem tw_1426 : (Cond.methodLink "SeldomOpsLaw" (86 : Nat) ({ cls := "SeldomOpsModel", name := "value", desc := "()J" } : MethodName)) ∈ xws := xws_in (List.mem_append_right _ (List.mem_of_getElem? (i := 1426) rfl)) rfl
set_option maxRecDepth 100000 in
theorem tw_1427 : (Cond.instanceMethod ({ cls := "SeldomOpsModel", name := "value", desc := "()J" } : MethodName)) ∈ xws := xws_in (List.mem_append_right _ (List.mem_of_getElem? (i := 1427) rfl)) rfl
set_option maxRecDepth 100000 in
theorem tw_1428 : (Cond.selects "SeldomOpsModel" ({ cls := "SeldomOpsModel", name := "value", desc := "()J" } : MethodName) ({ cls := "SeldomOpsModel", name := "value", desc := "()J" } : MethodName)) ∈ xws := xws_in (List.mem_append_right _ (List.mem_of_getElem? (i := 1428) rfl)) rfl
set_option maxRecDepth 100000 in
theorem tw_1429 : (Cond.code ({ cls := "SeldomOpsModel", name := "value", desc := "()J" } : MethodName) prog_14_method_62_code (1 : Nat) (Option.some FieldType.long)) ∈ xws := xws_in (List.mem_append_right _ (List.mem_of_getElem? (i := 1429) rfl)) rfl
set_option maxRecDepth 100000 in
theorem tw_1430 : (Cond.methodLink "SeldomOpsLaw" (90 : Nat) ({ cls := "SeldomOpsModel", name := "told", desc := "(I)I" } : MethodName)) ∈ xws := xws_in (List.mem_append_right _ (List.mem_of_getElem? (i := 1430) rfl)) rfl
set_option maxRecDepth 100000 in
theorem tw_1431 : (Cond.instanceMethod ({ cls := "SeldomOpsModel", name := "told", desc := "(I)I" } : MethodName)) ∈ xws := xws_in (List.mem_append_right _ (List.mem_of_getElem? (i := 1431) rfl)) rfl
set_option maxRecDepth 100000 in
theorem tw_1432 : (Cond.selects "SeldomOpsModel" ({ cls := "SeldomOpsModel", name := "told", desc := "(I)I" } : MethodName) ({ cls := "SeldomOpsModel", name := "told", desc := "(I)I" } : MethodName)) ∈ xws := xws_in (List.mem_append_right _ (List.mem_of_getElem? (i := 1432) rfl)) rfl
set_option maxRecDepth 100000 in
theorem tw_1433 : (Cond.code ({ cls := "SeldomOpsModel", name := "told", desc := "(I)I" } : MethodName) prog_14_method_63_code (2 : Nat) (Option.some FieldType.int)) ∈ xws := xws_in (List.mem_append_right _ (List.mem_of_getElem? (i := 1433) rfl)) rfl
set_option maxRecDepth 100000 in
theorem tw_1434 : (Cond.methodLink "SeldomOpsLaw" (94 : Nat) ({ cls := "SeldomOpsModel", name := "thing", desc := "(II)I" } : MethodName)) ∈ xws := xws_in (List.mem_append_right _ (List.mem_of_getElem? (i := 1434) rfl)) rfl
set_option maxRecDepth 100000 in
theorem tw_1435 : (Cond.instanceMethod ({ cls := "SeldomOpsModel", name := "thing", desc := "(II)I" } : MethodName)) ∈ xws := xws_in (List.mem_append_right _ (List.mem_of_getElem? (i := 1435) rfl)) rfl
set_option maxRecDepth 100000 in
theorem tw_1436 : (Cond.selects "SeldomOpsModel" ({ cls := "SeldomOpsModel", name := "thing", desc := "(II)I" } : MethodName) ({ cls := "SeldomOpsModel", name := "thing", desc := "(II)I" } : MethodName)) ∈ xws := xws_in (List.mem_append_right _ (List.mem_of_getElem? (i := 1436) rfl)) rfl
set_option maxRecDepth 100000 in
theorem tw_1437 : (Cond.code ({ cls := "SeldomOpsModel", name := "thing", desc := "(II)I" } : MethodName) prog_14_method_64_code (3 : Nat) (Option.some FieldType.int)) ∈ xws := xws_in (List.mem_append_right _ (List.mem_of_getElem? (i := 1437) rfl)) rfl
set_option maxRecDepth 100000 in
theorem tw_1439 : (Cond.methodLink "SeldomOpsLaw" (99 : Nat) ({ cls := "SeldomOpsModel", name := "cell", desc := "(II)J" } : MethodName)) ∈ xws := xws_in (List.mem_append_right _ (List.mem_of_getElem? (i := 1439) rfl)) rfl
set_option maxRecDepth 100000 in
theorem tw_1440 : (Cond.instanceMethod ({ cls := "SeldomOpsModel", name := "cell", desc := "(II)J" } : MethodName)) ∈ xws := xws_in (List.mem_append_right _ (List.mem_of_getElem? (i := 1440) rfl)) rfl
set_option maxRecDepth 100000 in
theorem tw_1441 : (Cond.selects "SeldomOpsModel" ({ cls := "SeldomOpsModel", name := "cell", desc := "(II)J" } : MethodName) ({ cls := "SeldomOpsModel", name := "cell", desc := "(II)J" } : MethodName)) ∈ xws := xws_in (List.mem_append_right _ (List.mem_of_getElem? (i := 1441) rfl)) rfl
set_option maxRecDepth 100000 in
theorem tw_1442 : (Cond.code ({ cls := "SeldomOpsModel", name := "cell", desc := "(II)J" } : MethodName) prog_14_method_65_code (3 : Nat) (Option.some FieldType.long)) ∈ xws := xws_in (List.mem_append_right _ (List.mem_of_getElem? (i := 1442) rfl)) rfl
set_option maxRecDepth 100000 in
theorem tw_1444 : (Cond.constantLong "SeldomOpsLaw" (37 : Nat) (4294967295 : Int64)) ∈ xws := xws_in (List.mem_append_right _ (List.mem_of_getElem? (i := 1444) rfl)) rfl
set_option maxRecDepth 100000 in
theorem nw_SeldomOpsLaw_7 : ∃ C T N, vwCl[10]? = some (C, T, N) ∧ Cond.classLink "SeldomOpsLaw" 7 C ∈ xws ∧ Cond.instantiable C N ∈ xws ∧ Cond.initialized C ∈ xws := ⟨_, _, _, rfl, tw_16, tw_17, tw_1⟩
set_option maxRecDepth 100000 in
theorem nw_SeldomOpsLaw_10 : ∃ C T N, vwCl[11]? = some (C, T, N) ∧ Cond.classLink "SeldomOpsLaw" 10 C ∈ xws ∧ Cond.instantiable C N ∈ xws ∧ Cond.initialized C ∈ xws := ⟨_, _, _, rfl, tw_961, tw_962, tw_9⟩
set_option maxRecDepth 100000 in
theorem mk_X11_alter : xmk mX11_alter 5 := ⟨tw_408, tw_1, ⟨by decide, by decide, by decide +kernel⟩, by decide⟩
set_option maxRecDepth 100000 in
theorem mk_X11_argument : xmk mX11_argument 2 := ⟨tw_380, tw_1, ⟨by decide, by decide, by decide +kernel⟩, by decide⟩
set_option maxRecDepth 100000 in
theorem mk_X11_cell : xmk mX11_cell 2 := ⟨tw_957, tw_1, ⟨by decide, by decide, by decide +kernel⟩, by decide⟩
set_option maxRecDepth 100000 in
theorem mk_X11_constant : xmk mX11_constant 1 := ⟨tw_420, tw_1, ⟨by decide, by decide, by decide +kernel⟩, by decide⟩
set_option maxRecDepth 100000 in
theorem mk_X11_count : xmk mX11_count 1 := ⟨tw_480, tw_1, ⟨by decide, by decide, by decide +kernel⟩, by decide⟩
set_option maxRecDepth 100000 in
theorem mk_X11_entry : xmk mX11_entry 3 := ⟨tw_464, tw_1, ⟨by decide, by decide, by decide +kernel⟩, by decide⟩
set_option maxRecDepth 100000 in
theorem mk_X11_fault : xmk mX11_fault 1 := ⟨tw_689, tw_1, ⟨by decide, by decide, by decide +kernel⟩, by decide⟩
set_option maxRecDepth 100000 in
theorem mk_X11_give : xmk mX11_give 1 := ⟨tw_705, tw_1, ⟨by decide, by decide, by decide +kernel⟩, by decide⟩
set_option maxRecDepth 100000 in
theorem mk_X11_good : xmk mX11_good 1 := ⟨tw_693, tw_1, ⟨by decide, by decide, by decide +kernel⟩, by decide⟩
set_option maxRecDepth 100000 in
theorem mk_X11_handler : xmk mX11_handler 5 := ⟨tw_412, tw_1, ⟨by decide, by decide, by decide +kernel⟩, by decide⟩
set_option maxRecDepth 100000 in
theorem mk_X11_init : xmk mX11_init 0 := ⟨tw_20, tw_1, ⟨by decide, by decide, by decide +kernel⟩, by decide⟩
set_option maxRecDepth 100000 in
theorem mk_X11_judge : xmk mX11_judge 1 := ⟨tw_484, tw_1, ⟨by decide, by decide, by decide +kernel⟩, by decide⟩
set_option maxRecDepth 100000 in
theorem mk_X11_method : xmk mX11_method 1 := ⟨tw_262, tw_1, ⟨by decide, by decide, by decide +kernel⟩, by decide⟩
set_option maxRecDepth 100000 in
theorem mk_X11_op : xmk mX11_op 4 := ⟨tw_400, tw_1, ⟨by decide, by decide, by decide +kernel⟩, by decide⟩
set_option maxRecDepth 100000 in
theorem mk_X11_shape : xmk mX11_shape 3 := ⟨tw_697, tw_1, ⟨by decide, by decide, by decide +kernel⟩, by decide⟩
set_option maxRecDepth 100000 in
theorem mk_X11_table : xmk mX11_table 3 := ⟨tw_428, tw_1, ⟨by decide, by decide, by decide +kernel⟩, by decide⟩
set_option maxRecDepth 100000 in
theorem mk_X11_thing : xmk mX11_thing 2 := ⟨tw_949, tw_1, ⟨by decide, by decide, by decide +kernel⟩, by decide⟩
set_option maxRecDepth 100000 in
theorem mk_X11_told : xmk mX11_told 1 := ⟨tw_941, tw_1, ⟨by decide, by decide, by decide +kernel⟩, by decide⟩
set_option maxRecDepth 100000 in
theorem mk_X11_value : xmk mX11_value 0 := ⟨tw_937, tw_1, ⟨by decide, by decide, by decide +kernel⟩, by decide⟩
set_option maxRecDepth 100000 in
theorem mk_X11_walk : xmk mX11_walk 2 := ⟨tw_709, tw_1, ⟨by decide, by decide, by decide +kernel⟩, by decide⟩
set_option maxRecDepth 100000 in
theorem mk_X12_argument : xmk mX12_argument 2 := ⟨tw_1184, tw_9, ⟨by decide, by decide, by decide +kernel⟩, by decide⟩
set_option maxRecDepth 100000 in
theorem mk_X12_cell : xmk mX12_cell 2 := ⟨tw_1442, tw_9, ⟨by decide, by decide, by decide +kernel⟩, by decide⟩
set_option maxRecDepth 100000 in
theorem mk_X12_constant : xmk mX12_constant 1 := ⟨tw_1214, tw_9, ⟨by decide, by decide, by decide +kernel⟩, by decide⟩
set_option maxRecDepth 100000 in
theorem mk_X12_count : xmk mX12_count 1 := ⟨tw_1226, tw_9, ⟨by decide, by decide, by decide +kernel⟩, by decide⟩
set_option maxRecDepth 100000 in
theorem mk_X12_entry : xmk mX12_entry 3 := ⟨tw_1222, tw_9, ⟨by decide, by decide, by decide +kernel⟩, by decide⟩
set_option maxRecDepth 100000 in
theorem mk_X12_fault : xmk mX12_fault 1 := ⟨tw_1316, tw_9, ⟨by decide, by decide, by decide +kernel⟩, by decide⟩
set_option maxRecDepth 100000 in
theorem mk_X12_give : xmk mX12_give 1 := ⟨tw_1329, tw_9, ⟨by decide, by decide, by decide +kernel⟩, by decide⟩
set_option maxRecDepth 100000 in
theorem mk_X12_good : xmk mX12_good 1 := ⟨tw_1320, tw_9, ⟨by decide, by decide, by decide +kernel⟩, by decide⟩
set_option maxRecDepth 100000 in
theorem mk_X12_handler : xmk mX12_handler 5 := ⟨tw_1206, tw_9, ⟨by decide, by decide, by decide +kernel⟩, by decide⟩
set_option maxRecDepth 100000 in
theorem mk_X12_init : xmk mX12_init 0 := ⟨tw_965, tw_9, ⟨by decide, by decide, by decide +kernel⟩, by decide⟩
set_option maxRecDepth 100000 in
theorem mk_X12_judge : xmk mX12_judge 1 := ⟨tw_1230, tw_9, ⟨by decide, by decide, by decide +kernel⟩, by decide⟩
set_option maxRecDepth 100000 in
theorem mk_X12_method : xmk mX12_method 1 := ⟨tw_1172, tw_9, ⟨by decide, by decide, by decide +kernel⟩, by decide⟩
set_option maxRecDepth 100000 in
theorem mk_X12_op : xmk mX12_op 4 := ⟨tw_1196, tw_9, ⟨by decide, by decide, by decide +kernel⟩, by decide⟩
set_option maxRecDepth 100000 in
theorem mk_X12_shape : xmk mX12_shape 3 := ⟨tw_1324, tw_9, ⟨by decide, by decide, by decide +kernel⟩, by decide⟩
set_option maxRecDepth 100000 in
theorem mk_X12_table : xmk mX12_table 3 := ⟨tw_1218, tw_9, ⟨by decide, by decide, by decide +kernel⟩, by decide⟩
set_option maxRecDepth 100000 in
theorem mk_X12_thing : xmk mX12_thing 2 := ⟨tw_1437, tw_9, ⟨by decide, by decide, by decide +kernel⟩, by decide⟩
set_option maxRecDepth 100000 in
theorem mk_X12_told : xmk mX12_told 1 := ⟨tw_1433, tw_9, ⟨by decide, by decide, by decide +kernel⟩, by decide⟩
set_option maxRecDepth 100000 in
theorem mk_X12_value : xmk mX12_value 0 := ⟨tw_1429, tw_9, ⟨by decide, by decide, by decide +kernel⟩, by decide⟩
set_option maxRecDepth 100000 in
theorem mk_X12_walk : xmk mX12_walk 2 := ⟨tw_1333, tw_9, ⟨by decide, by decide, by decide +kernel⟩, by decide⟩
